/-! ===== the same walk, laid so that the kernel goes through it quicker: one instruction's own lines alone are looked at; lists are made whole at once ===== -/
noncomputable def fl_get {α : Type} (l : List α) (k : Nat) : Option α := List.rec (motive := fun _ => Nat → Option α) (fun _ => none) (fun a _ ih k => Nat.rec (motive := fun _ => Option α) (some a) (fun k' _ => ih k') k) l k
theorem fl_get_eq {α : Type} (l : List α) (k : Nat) : fl_get l k = l[k]? := by
  induction l generalizing k with
  | nil => rfl
  | cons a t ih =>
    cases k with
    | zero => rfl
    | succ k => exact (ih k).trans (by simp)
noncomputable def fl_set {α β : Type} (l : List α) (k : Nat) (c : α) (f : List α → β) : β := List.rec (motive := fun _ => Nat → (List α → β) → β) (fun _ f => f []) (fun a t ih k f => Nat.rec (motive := fun _ => β) (f (c :: t)) (fun k' _ => ih k' (fun t' => f (a :: t'))) k) l k f
theorem fl_set_eq {α β : Type} (l : List α) (k : Nat) (c : α) (f : List α → β) : fl_set l k c f = f (l.set k c) := by
  induction l generalizing k f with
  | nil => rfl
  | cons a t ih =>
    cases k with
    | zero => rfl
    | succ k => exact ih k (fun t' => f (a :: t'))
noncomputable def fl_flt {α β : Type} (l : List α) (p : α → Bool) (f : List α → β) : β := List.rec (motive := fun _ => (List α → β) → β) (fun f => f []) (fun a _ ih f => Bool.rec (motive := fun _ => β) (ih f) (ih (fun t' => f (a :: t'))) (p a)) l f
theorem fl_flt_eq {α β : Type} (l : List α) (p : α → Bool) (f : List α → β) : fl_flt l p f = f (l.filter p) := by
  induction l generalizing f with
  | nil => rfl
  | cons a t ih =>
    rw [List.filter_cons]
    show Bool.rec (motive := fun _ => β) (fl_flt t p f) (fl_flt t p (fun t' => f (a :: t'))) (p a) = _
    cases p a with
    | false => exact ih f
    | true => exact ih (fun t' => f (a :: t'))
noncomputable def fl_app {α β : Type} (l : List α) (c : α) (f : List α → β) : β := List.rec (motive := fun _ => (List α → β) → β) (fun f => f [c]) (fun a _ ih f => ih (fun t' => f (a :: t'))) l f
theorem fl_app_eq {α β : Type} (l : List α) (c : α) (f : List α → β) : fl_app l c f = f (l ++ [c]) := by
  induction l generalizing f with
  | nil => rfl
  | cons a t ih => exact ih (fun t' => f (a :: t'))
noncomputable def fl_lk (als : ai_L) (i : Nat) : Option ai_V := List.rec (motive := fun _ => Option ai_V) none (fun q _ ih => Bool.rec (motive := fun _ => Option ai_V) ih (some q.2) (Nat.beq q.1 i)) als
theorem fl_beq (a b : Nat) : Nat.beq a b = (a == b) := by
  cases h : Nat.beq a b with
  | true => rw [Nat.eq_of_beq_eq_true h]; simp
  | false =>
    have := Nat.ne_of_beq_eq_false h
    simp [this]
theorem fl_lk_eq (als : ai_L) (i : Nat) : fl_lk als i = ai_lk als i := by
  induction als with
  | nil => rfl
  | cons q t ih =>
    obtain ⟨k, v⟩ := q
    show Bool.rec (motive := fun _ => Option ai_V) (fl_lk t i) (some v) (Nat.beq k i) = ai_lk ((k, v) :: t) i
    have e : ai_lk ((k, v) :: t) i = (bif k == i then some v else ai_lk t i) := rfl
    rw [fl_beq, ih, e]
    cases (k == i) <;> rfl
def fp_1 (i : Nat) (q : Nat × ai_V) : Bool := !(q.1 == i) && !(q.1 + 1 == i && ai_cat q.2 == 2)
def fp_2 (i : Nat) (q : Nat × ai_V) : Bool := !(q.1 == i) && (!(q.1 == i + 1) && !(q.1 + 1 == i && ai_cat q.2 == 2))
noncomputable def af_load (als : ai_L) (st : List ai_V) (aw : ai_W) (cs ss i : Nat) (ok : ai_V → Bool) : Option ai_S := (fl_lk als i).bind fun v => ai_gd (ok v) (some (als, v :: st, aw, cs, ss))
theorem af_load_eq (als : ai_L) (st : List ai_V) (aw : ai_W) (cs ss i : Nat) (ok : ai_V → Bool) : af_load als st aw cs ss i ok = ai_load als st aw cs ss i ok := by
  unfold af_load ai_load
  rw [fl_lk_eq]
noncomputable def af_sto (als : ai_L) (st : List ai_V) (aw : ai_W) (cs ss i nL : Nat) (ok : ai_V → Bool) : Option ai_S := ai_p1 st fun v r => ai_gd (ok v && decide (i < nL)) (fl_flt als (fp_1 i) (fun t => some ((i, v) :: t, r, aw, cs, ss)))
theorem af_sto_eq (als : ai_L) (st : List ai_V) (aw : ai_W) (cs ss i nL : Nat) (ok : ai_V → Bool) : af_sto als st aw cs ss i nL ok = ai_sto als st aw cs ss i nL ok := by
  unfold af_sto ai_sto
  simp only [fl_flt_eq]
  rfl
noncomputable def af_sto2 (als : ai_L) (st : List ai_V) (aw : ai_W) (cs ss i nL : Nat) : Option ai_S := ai_p1 st fun v r => ai_gd (ai_isL v && decide (i + 1 < nL)) (fl_flt als (fp_2 i) (fun t => some ((i, v) :: t, r, aw, cs, ss)))
theorem af_sto2_eq (als : ai_L) (st : List ai_V) (aw : ai_W) (cs ss i nL : Nat) : af_sto2 als st aw cs ss i nL = ai_sto2 als st aw cs ss i nL := by
  unfold af_sto2 ai_sto2
  simp only [fl_flt_eq]
  rfl
noncomputable def af_mat {β : Type} (G : ai_G) (v : ai_V) (n : β) (f : ai_G → ai_V → β) : β := bif (v.1 == 0 || v.1 == 1) && decide (v.2.2.1 < v.2.2.2) then fl_app G (v.2.2.1, v.2.2.2, 0) (fun G' => f G' (v.1 + 2, G.length, 0, 1)) else n
theorem af_mat_eq {β : Type} (G : ai_G) (v : ai_V) (n : β) (f : ai_G → ai_V → β) : af_mat G v n f = (match ai_mat G v with
  | none => n
  | some q => f q.1 q.2) := by
  unfold af_mat ai_mat
  cases ((v.1 == 0 || v.1 == 1) && decide (v.2.2.1 < v.2.2.2)) with
  | false => rfl
  | true => exact fl_app_eq _ _ _
noncomputable def af_ald (G : ai_G) (als : ai_L) (st : List ai_V) (aw : ai_W) (cs ss ty : Nat) : Option (ai_G × ai_S) := ai_p2 st fun i a r => ai_gd (ai_isR a) ((fl_get aw a.2.1).bind fun c => match c with
  | .inr (t, n, d, ov) => ai_gd (t == ty && ai_inb G i n) ((ai_rd G ty d ov i).bind fun v => af_mat G v (some (G, als, v :: r, aw, cs, ss)) (fun G' w => bif ai_one G i then fl_flt ov (fun p => !(p.1 == (ai_b G i).1.toNat)) (fun ov' => fl_set aw a.2.1 (.inr (t, n, d, ((ai_b G i).1.toNat, w) :: ov')) (fun aw' => some (G', als, w :: r, aw', cs, ss))) else some (G', als, w :: r, aw, cs, ss)))
  | .inl _ => none)
theorem af_ald_eq (G : ai_G) (als : ai_L) (st : List ai_V) (aw : ai_W) (cs ss ty : Nat) : af_ald G als st aw cs ss ty = ai_ald G als st aw cs ss ty := by
  unfold af_ald ai_ald
  simp only [fl_get_eq, af_mat_eq, fl_flt_eq, fl_set_eq]
  rfl
noncomputable def am_getfield (en : ai_E) (G : ai_G) (als : ai_L) (st : List ai_V) (aw : ai_W) (cs ss : Nat) : Option (ai_G × ai_S) := ai_p1 st fun a r => ai_gd (ai_isR a) ((fl_get aw a.2.1).bind fun c => match c with
    | .inl (ci, fs) => ai_gd (ci == en.2.2.2.1) ((fl_get fs en.2.2.2.2.1).bind fun v => af_mat G v (some (G, als, v :: r, aw, cs, ss)) (fun G' w => fl_set fs en.2.2.2.2.1 w (fun fs' => fl_set aw a.2.1 (.inl (ci, fs')) (fun aw' => some (G', als, w :: r, aw', cs, ss)))))
    | .inr _ => none)
noncomputable def am_ald (ty : Nat) (en : ai_E) (G : ai_G) (als : ai_L) (st : List ai_V) (aw : ai_W) (cs ss : Nat) : Option (ai_G × ai_S) := af_ald G als st aw cs ss ty
noncomputable def af_rdm (ins : Instr) : ai_E → ai_G → ai_L → List ai_V → ai_W → Nat → Nat → Option (ai_G × ai_S) := match ins with
  | .getfield _ => am_getfield
  | .iaload => am_ald 0
  | .laload => am_ald 1
  | .baload => am_ald 2
  | .aaload => am_ald 3
  | .iload i => fun _ G als st aw cs ss => ai_ldm G als st aw cs ss i ai_isI
  | .iload_n k => fun _ G als st aw cs ss => ai_ldm G als st aw cs ss (k : Nat) ai_isI
  | .lload i => fun _ G als st aw cs ss => ai_ldm G als st aw cs ss i ai_isL
  | .lload_n k => fun _ G als st aw cs ss => ai_ldm G als st aw cs ss (k : Nat) ai_isL
  | _ => fun _ _ _ _ _ _ _ => none
theorem af_rdm_eq (en : ai_E) (G : ai_G) (als : ai_L) (st : List ai_V) (aw : ai_W) (cs ss : Nat) : af_rdm en.2.1 en G als st aw cs ss = ai_rdm en G als st aw cs ss := by
  obtain ⟨pc, ins, len, na, nb, ni, nz⟩ := en
  dsimp only
  cases ins with
  | getfield i =>
    show am_getfield (pc, .getfield i, len, na, nb, ni, nz) G als st aw cs ss = _
    unfold am_getfield ai_rdm
    simp only [fl_get_eq, af_mat_eq, fl_set_eq]
    rfl
  | iaload => exact af_ald_eq G als st aw cs ss 0
  | laload => exact af_ald_eq G als st aw cs ss 1
  | baload => exact af_ald_eq G als st aw cs ss 2
  | aaload => exact af_ald_eq G als st aw cs ss 3
  | _ => rfl
noncomputable def af_ast (G : ai_G) (als : ai_L) (st : List ai_V) (aw : ai_W) (cs ss ty : Nat) (ok : ai_V → Bool) : Option ai_S := ai_p3 st fun v i a r => ai_gd (ai_isR a && ok v) ((fl_get aw a.2.1).bind fun c => match c with
  | .inr (t, n, d, ov) => ai_gd (t == ty && (ai_inb G i n && (!(d.1 == 10) || decide ((ai_b G i).2 < 5056)))) (bif ai_one G i && ai_look d ov (ai_b G i).1.toNat == v then some (als, r, aw, cs, ss) else (ai_wr G ty d ov i v).bind fun q => fl_set aw a.2.1 (.inr (t, n, q.1, q.2)) (fun aw' => some (als, r, aw', cs, ss)))
  | .inl _ => none)
theorem ai_set_self {α : Type} {l : List α} {k : Nat} {c : α} (h : l[k]? = some c) : l.set k c = l := by
  apply List.ext_getElem?
  intro i
  by_cases hi : k = i
  · subst hi
    rw [List.getElem?_set_self (List.getElem?_eq_some_iff.mp h).1, h]
  · rw [List.getElem?_set_ne hi]
theorem af_ast_eq (G : ai_G) (als : ai_L) (st : List ai_V) (aw : ai_W) (cs ss ty : Nat) (ok : ai_V → Bool) : af_ast G als st aw cs ss ty ok = ai_ast G als st aw cs ss ty ok := by
  unfold af_ast ai_ast
  simp only [fl_get_eq, fl_set_eq]
  congr 1
  funext v i a r
  congr 1
  cases hc : aw[a.2.1]? with
  | none => rfl
  | some c =>
    rcases c with q | ⟨t, n, d, ov⟩
    · rfl
    · dsimp only [Option.bind]
      congr 1
      cases h : (ai_one G i && ai_look d ov (ai_b G i).1.toNat == v) with
      | false => rfl
      | true =>
        rw [Bool.and_eq_true] at h
        have e : ai_wr G ty d ov i v = some (d, ov) := by
          unfold ai_wr
          rw [h.1, h.2]
          rfl
        rw [e]
        simp only [cond_true]
        rw [ai_set_self hc]
noncomputable def ah_iconst (n : Int) (md : ai_MD) (L : Nat) (en : ai_E) (G : ai_G) (als : ai_L) (st : List ai_V) (aw : ai_W) (cs ss : Nat) : Option ai_S := some (als, ai_lI (Int32.ofInt n).toInt :: st, aw, cs, ss)
noncomputable def ah_bipush (n : Int) (md : ai_MD) (L : Nat) (en : ai_E) (G : ai_G) (als : ai_L) (st : List ai_V) (aw : ai_W) (cs ss : Nat) : Option ai_S := some (als, ai_lI (Int8.ofInt n).toInt32.toInt :: st, aw, cs, ss)
noncomputable def ah_sipush (n : Int) (md : ai_MD) (L : Nat) (en : ai_E) (G : ai_G) (als : ai_L) (st : List ai_V) (aw : ai_W) (cs ss : Nat) : Option ai_S := some (als, ai_lI (Int16.ofInt n).toInt32.toInt :: st, aw, cs, ss)
noncomputable def ah_lconst (n : Fin 2) (md : ai_MD) (L : Nat) (en : ai_E) (G : ai_G) (als : ai_L) (st : List ai_V) (aw : ai_W) (cs ss : Nat) : Option ai_S := some (als, ai_lL (Int64.ofNat (n : Nat)).toInt :: st, aw, cs, ss)
noncomputable def ah_ldc (md : ai_MD) (L : Nat) (en : ai_E) (G : ai_G) (als : ai_L) (st : List ai_V) (aw : ai_W) (cs ss : Nat) : Option ai_S := some (als, ai_lI (Int32.ofInt en.2.2.2.2.2.2).toInt :: st, aw, cs, ss)
noncomputable def ah_ldc_w (md : ai_MD) (L : Nat) (en : ai_E) (G : ai_G) (als : ai_L) (st : List ai_V) (aw : ai_W) (cs ss : Nat) : Option ai_S := some (als, ai_lI (Int32.ofInt en.2.2.2.2.2.2).toInt :: st, aw, cs, ss)
noncomputable def ah_ldc2_w (md : ai_MD) (L : Nat) (en : ai_E) (G : ai_G) (als : ai_L) (st : List ai_V) (aw : ai_W) (cs ss : Nat) : Option ai_S := some (als, ai_lL (Int64.ofInt en.2.2.2.2.2.2).toInt :: st, aw, cs, ss)
noncomputable def ah_iload (i : Nat) (md : ai_MD) (L : Nat) (en : ai_E) (G : ai_G) (als : ai_L) (st : List ai_V) (aw : ai_W) (cs ss : Nat) : Option ai_S := af_load als st aw cs ss i ai_kI
noncomputable def ah_iload_n (k : Fin 4) (md : ai_MD) (L : Nat) (en : ai_E) (G : ai_G) (als : ai_L) (st : List ai_V) (aw : ai_W) (cs ss : Nat) : Option ai_S := af_load als st aw cs ss (k : Nat) ai_kI
noncomputable def ah_lload (i : Nat) (md : ai_MD) (L : Nat) (en : ai_E) (G : ai_G) (als : ai_L) (st : List ai_V) (aw : ai_W) (cs ss : Nat) : Option ai_S := af_load als st aw cs ss i ai_kL
noncomputable def ah_lload_n (k : Fin 4) (md : ai_MD) (L : Nat) (en : ai_E) (G : ai_G) (als : ai_L) (st : List ai_V) (aw : ai_W) (cs ss : Nat) : Option ai_S := af_load als st aw cs ss (k : Nat) ai_kL
noncomputable def ah_aload (i : Nat) (md : ai_MD) (L : Nat) (en : ai_E) (G : ai_G) (als : ai_L) (st : List ai_V) (aw : ai_W) (cs ss : Nat) : Option ai_S := af_load als st aw cs ss i (fun v => ai_isR v || v.1 == 7)
noncomputable def ah_aload_n (k : Fin 4) (md : ai_MD) (L : Nat) (en : ai_E) (G : ai_G) (als : ai_L) (st : List ai_V) (aw : ai_W) (cs ss : Nat) : Option ai_S := af_load als st aw cs ss (k : Nat) (fun v => ai_isR v || v.1 == 7)
noncomputable def ah_istore (i : Nat) (md : ai_MD) (L : Nat) (en : ai_E) (G : ai_G) (als : ai_L) (st : List ai_V) (aw : ai_W) (cs ss : Nat) : Option ai_S := af_sto als st aw cs ss i md.2.2.2.1 ai_isI
noncomputable def ah_istore_n (k : Fin 4) (md : ai_MD) (L : Nat) (en : ai_E) (G : ai_G) (als : ai_L) (st : List ai_V) (aw : ai_W) (cs ss : Nat) : Option ai_S := af_sto als st aw cs ss (k : Nat) md.2.2.2.1 ai_isI
noncomputable def ah_astore (i : Nat) (md : ai_MD) (L : Nat) (en : ai_E) (G : ai_G) (als : ai_L) (st : List ai_V) (aw : ai_W) (cs ss : Nat) : Option ai_S := af_sto als st aw cs ss i md.2.2.2.1 ai_isR
noncomputable def ah_astore_n (k : Fin 4) (md : ai_MD) (L : Nat) (en : ai_E) (G : ai_G) (als : ai_L) (st : List ai_V) (aw : ai_W) (cs ss : Nat) : Option ai_S := af_sto als st aw cs ss (k : Nat) md.2.2.2.1 ai_isR
noncomputable def ah_lstore (i : Nat) (md : ai_MD) (L : Nat) (en : ai_E) (G : ai_G) (als : ai_L) (st : List ai_V) (aw : ai_W) (cs ss : Nat) : Option ai_S := af_sto2 als st aw cs ss i md.2.2.2.1
noncomputable def ah_lstore_n (k : Fin 4) (md : ai_MD) (L : Nat) (en : ai_E) (G : ai_G) (als : ai_L) (st : List ai_V) (aw : ai_W) (cs ss : Nat) : Option ai_S := af_sto2 als st aw cs ss (k : Nat) md.2.2.2.1
noncomputable def ah_iinc (i : Nat) (n : Int) (md : ai_MD) (L : Nat) (en : ai_E) (G : ai_G) (als : ai_L) (st : List ai_V) (aw : ai_W) (cs ss : Nat) : Option ai_S := (fl_lk als i).bind fun v => ai_gd (ai_isI v && decide (i < md.2.2.2.1)) (fl_flt als (fp_1 i) (fun t => some ((i, (ai_or (ai_adA 2 (-2147483648) 2147483647 G v (Int32.ofInt n).toInt) (ai_mI ((ai_b G v).1 + (Int32.ofInt n).toInt) ((ai_b G v).2 + (Int32.ofInt n).toInt)))) :: t, st, aw, cs, ss)))
noncomputable def ah_iadd (md : ai_MD) (L : Nat) (en : ai_E) (G : ai_G) (als : ai_L) (st : List ai_V) (aw : ai_W) (cs ss : Nat) : Option ai_S := ai_b2 L .iadd G als st aw cs ss
noncomputable def ah_isub (md : ai_MD) (L : Nat) (en : ai_E) (G : ai_G) (als : ai_L) (st : List ai_V) (aw : ai_W) (cs ss : Nat) : Option ai_S := ai_b2 L .isub G als st aw cs ss
noncomputable def ah_imul (md : ai_MD) (L : Nat) (en : ai_E) (G : ai_G) (als : ai_L) (st : List ai_V) (aw : ai_W) (cs ss : Nat) : Option ai_S := ai_b2 L .imul G als st aw cs ss
noncomputable def ah_iand (md : ai_MD) (L : Nat) (en : ai_E) (G : ai_G) (als : ai_L) (st : List ai_V) (aw : ai_W) (cs ss : Nat) : Option ai_S := ai_b2 L .iand G als st aw cs ss
noncomputable def ah_ior (md : ai_MD) (L : Nat) (en : ai_E) (G : ai_G) (als : ai_L) (st : List ai_V) (aw : ai_W) (cs ss : Nat) : Option ai_S := ai_b2 L .ior G als st aw cs ss
noncomputable def ah_ixor (md : ai_MD) (L : Nat) (en : ai_E) (G : ai_G) (als : ai_L) (st : List ai_V) (aw : ai_W) (cs ss : Nat) : Option ai_S := ai_b2 L .ixor G als st aw cs ss
noncomputable def ah_ishl (md : ai_MD) (L : Nat) (en : ai_E) (G : ai_G) (als : ai_L) (st : List ai_V) (aw : ai_W) (cs ss : Nat) : Option ai_S := ai_b2 L .ishl G als st aw cs ss
noncomputable def ah_ishr (md : ai_MD) (L : Nat) (en : ai_E) (G : ai_G) (als : ai_L) (st : List ai_V) (aw : ai_W) (cs ss : Nat) : Option ai_S := ai_b2 L .ishr G als st aw cs ss
noncomputable def ah_iushr (md : ai_MD) (L : Nat) (en : ai_E) (G : ai_G) (als : ai_L) (st : List ai_V) (aw : ai_W) (cs ss : Nat) : Option ai_S := ai_b2 L .iushr G als st aw cs ss
noncomputable def ah_idiv (md : ai_MD) (L : Nat) (en : ai_E) (G : ai_G) (als : ai_L) (st : List ai_V) (aw : ai_W) (cs ss : Nat) : Option ai_S := ai_b2 L .idiv G als st aw cs ss
noncomputable def ah_irem (md : ai_MD) (L : Nat) (en : ai_E) (G : ai_G) (als : ai_L) (st : List ai_V) (aw : ai_W) (cs ss : Nat) : Option ai_S := ai_b2 L .irem G als st aw cs ss
noncomputable def ah_ladd (md : ai_MD) (L : Nat) (en : ai_E) (G : ai_G) (als : ai_L) (st : List ai_V) (aw : ai_W) (cs ss : Nat) : Option ai_S := ai_bl .ladd G als st aw cs ss
noncomputable def ah_lsub (md : ai_MD) (L : Nat) (en : ai_E) (G : ai_G) (als : ai_L) (st : List ai_V) (aw : ai_W) (cs ss : Nat) : Option ai_S := ai_bl .lsub G als st aw cs ss
noncomputable def ah_lmul (md : ai_MD) (L : Nat) (en : ai_E) (G : ai_G) (als : ai_L) (st : List ai_V) (aw : ai_W) (cs ss : Nat) : Option ai_S := ai_bl .lmul G als st aw cs ss
noncomputable def ah_ldiv (md : ai_MD) (L : Nat) (en : ai_E) (G : ai_G) (als : ai_L) (st : List ai_V) (aw : ai_W) (cs ss : Nat) : Option ai_S := ai_bl .ldiv G als st aw cs ss
noncomputable def ah_lrem (md : ai_MD) (L : Nat) (en : ai_E) (G : ai_G) (als : ai_L) (st : List ai_V) (aw : ai_W) (cs ss : Nat) : Option ai_S := ai_bl .lrem G als st aw cs ss
noncomputable def ah_lshl (md : ai_MD) (L : Nat) (en : ai_E) (G : ai_G) (als : ai_L) (st : List ai_V) (aw : ai_W) (cs ss : Nat) : Option ai_S := ai_p2 st fun b a r => ai_gd (ai_isL a && ai_isI b) (some (als, ai_shl G a b :: r, aw, cs, ss))
noncomputable def ah_i2l (md : ai_MD) (L : Nat) (en : ai_E) (G : ai_G) (als : ai_L) (st : List ai_V) (aw : ai_W) (cs ss : Nat) : Option ai_S := ai_p1 st fun a r => ai_gd (ai_isI a) (some (als, ai_i2l G a :: r, aw, cs, ss))
noncomputable def ah_l2i (md : ai_MD) (L : Nat) (en : ai_E) (G : ai_G) (als : ai_L) (st : List ai_V) (aw : ai_W) (cs ss : Nat) : Option ai_S := ai_p1 st fun a r => ai_gd (ai_isL a) (some (als, ai_l2i G a :: r, aw, cs, ss))
noncomputable def ah_ineg (md : ai_MD) (L : Nat) (en : ai_E) (G : ai_G) (als : ai_L) (st : List ai_V) (aw : ai_W) (cs ss : Nat) : Option ai_S := ai_p1 st fun a r => ai_gd (ai_isI a) (some (als, ai_mI (- (ai_b G a).2) (- (ai_b G a).1) :: r, aw, cs, ss))
noncomputable def ah_dup (md : ai_MD) (L : Nat) (en : ai_E) (G : ai_G) (als : ai_L) (st : List ai_V) (aw : ai_W) (cs ss : Nat) : Option ai_S := ai_p1 st fun a r => ai_gd (ai_cat a == 1) (some (als, a :: a :: r, aw, cs, ss))
noncomputable def ah_pop (md : ai_MD) (L : Nat) (en : ai_E) (G : ai_G) (als : ai_L) (st : List ai_V) (aw : ai_W) (cs ss : Nat) : Option ai_S := ai_p1 st fun a r => ai_gd (ai_cat a == 1) (some (als, r, aw, cs, ss))
noncomputable def ah_dup2 (md : ai_MD) (L : Nat) (en : ai_E) (G : ai_G) (als : ai_L) (st : List ai_V) (aw : ai_W) (cs ss : Nat) : Option ai_S := ai_p2 st fun a b r => ai_gd (ai_cat a == 1 && ai_cat b == 1) (some (als, a :: b :: a :: b :: r, aw, cs, ss))
noncomputable def ah_putfield (md : ai_MD) (L : Nat) (en : ai_E) (G : ai_G) (als : ai_L) (st : List ai_V) (aw : ai_W) (cs ss : Nat) : Option ai_S := ai_p2 st fun v a r => ai_gd (ai_isR a && ai_fit G (ai_ty en.2.2.2.1 en.2.2.2.2.1) v) ((fl_get aw a.2.1).bind fun c => match c with
    | .inl (ci, fs) => ai_gd (ci == en.2.2.2.1 && decide (en.2.2.2.2.1 < fs.length)) (bif fl_get fs en.2.2.2.2.1 == some v then some (als, r, aw, cs, ss) else fl_set fs en.2.2.2.2.1 v (fun fs' => fl_set aw a.2.1 (.inl (ci, fs')) (fun aw' => some (als, r, aw', cs, ss))))
    | .inr _ => none)
noncomputable def ah_iaload (md : ai_MD) (L : Nat) (en : ai_E) (G : ai_G) (als : ai_L) (st : List ai_V) (aw : ai_W) (cs ss : Nat) : Option ai_S := ai_p2 st fun i a r => ai_gd (a.1 == 7 && (md.2.2.2.2.2.2.2 == 3 && (i.1 == 0 && (decide (i.2.2.1 = i.2.2.2) && (decide (0 ≤ i.2.2.1) && decide (i.2.2.1 < (L : Int))))))) (some (als, ((2, i.2.2.1.toNat, 0, 1) : ai_V) :: r, aw, cs, ss))
noncomputable def ah_iastore (md : ai_MD) (L : Nat) (en : ai_E) (G : ai_G) (als : ai_L) (st : List ai_V) (aw : ai_W) (cs ss : Nat) : Option ai_S := af_ast G als st aw cs ss 0 ai_isI
noncomputable def ah_lastore (md : ai_MD) (L : Nat) (en : ai_E) (G : ai_G) (als : ai_L) (st : List ai_V) (aw : ai_W) (cs ss : Nat) : Option ai_S := af_ast G als st aw cs ss 1 ai_isL
noncomputable def ah_bastore (md : ai_MD) (L : Nat) (en : ai_E) (G : ai_G) (als : ai_L) (st : List ai_V) (aw : ai_W) (cs ss : Nat) : Option ai_S := af_ast G als st aw cs ss 2 (ai_fit G .boolean)
noncomputable def ah_aastore (md : ai_MD) (L : Nat) (en : ai_E) (G : ai_G) (als : ai_L) (st : List ai_V) (aw : ai_W) (cs ss : Nat) : Option ai_S := af_ast G als st aw cs ss 3 (fun v => ai_isR v && (match aw[v.2.1]? with
    | some (.inl (ci, _)) => ci == 2
    | _ => false))
noncomputable def ah_arraylength (md : ai_MD) (L : Nat) (en : ai_E) (G : ai_G) (als : ai_L) (st : List ai_V) (aw : ai_W) (cs ss : Nat) : Option ai_S := ai_p1 st fun a r => bif a.1 == 7 && md.2.2.2.2.2.2.2 == 3 then some (als, ai_lI (Int32.ofNat L).toInt :: r, aw, cs, ss) else ai_gd (ai_isR a) ((fl_get aw a.2.1).bind fun c => match c with
    | .inr (t, n, _, _) => ai_gd (!(t == 5)) (some (als, ai_lI (Int32.ofNat n).toInt :: r, aw, cs, ss))
    | .inl _ => none)
noncomputable def ah_new (md : ai_MD) (L : Nat) (en : ai_E) (G : ai_G) (als : ai_L) (st : List ai_V) (aw : ai_W) (cs ss : Nat) : Option ai_S := (vwCl[en.2.2.2.1]?).bind fun q => ai_gd ((List.range q.2.2).all (fun k => ai_okt (ai_ty en.2.2.2.1 k)) && (decide (cs + 1 ≤ md.2.2.2.2.2.2.1.cells) && decide (ss + q.2.2 ≤ md.2.2.2.2.2.2.1.slots))) (fl_app aw (.inl (en.2.2.2.1, (List.range q.2.2).map fun k => ai_dv (ai_ty en.2.2.2.1 k))) (fun aw' => some (als, ((4, aw.length, 0, 0) : ai_V) :: st, aw', cs + 1, ss + q.2.2)))
noncomputable def ah_newarray (t : ArrayType) (md : ai_MD) (L : Nat) (en : ai_E) (G : ai_G) (als : ai_L) (st : List ai_V) (aw : ai_W) (cs ss : Nat) : Option ai_S := (ai_ak t).bind fun ty => ai_p1 st fun n r => ai_gd (n.1 == 0 && (decide (n.2.2.1 = n.2.2.2) && (decide (0 ≤ n.2.2.1) && (decide (n.2.2.1 ≤ 60000000) && (decide (cs + 1 ≤ md.2.2.2.2.2.2.1.cells) && decide (ss + n.2.2.1.toNat ≤ md.2.2.2.2.2.2.1.slots)))))) (fl_app aw (.inr (ty, n.2.2.1.toNat, (bif ty == 1 then ai_lL 0 else ai_lI 0), [])) (fun aw' => some (als, ((4, aw.length, 0, 0) : ai_V) :: r, aw', cs + 1, ss + n.2.2.1.toNat)))
noncomputable def ah_anewarray (md : ai_MD) (L : Nat) (en : ai_E) (G : ai_G) (als : ai_L) (st : List ai_V) (aw : ai_W) (cs ss : Nat) : Option ai_S := ai_p1 st fun n r => ai_gd (n.1 == 0 && (decide (n.2.2.1 = n.2.2.2) && (decide (0 ≤ n.2.2.1) && (decide (n.2.2.1 ≤ 60000000) && (decide (cs + 1 ≤ md.2.2.2.2.2.2.1.cells) && decide (ss + n.2.2.1.toNat ≤ md.2.2.2.2.2.2.1.slots)))))) (fl_app aw (.inr (3, n.2.2.1.toNat, (5, 0, 0, 0), [])) (fun aw' => some (als, ((4, aw.length, 0, 0) : ai_V) :: r, aw', cs + 1, ss + n.2.2.1.toNat)))
noncomputable def ah_invokestatic (md : ai_MD) (L : Nat) (en : ai_E) (G : ai_G) (als : ai_L) (st : List ai_V) (aw : ai_W) (cs ss : Nat) : Option ai_S := bif en.2.2.2.1 == 997 then ai_cpy md G als st aw cs ss else ai_mth md en.2.2.2.1 G als st aw cs ss
noncomputable def ah_invokespecial (md : ai_MD) (L : Nat) (en : ai_E) (G : ai_G) (als : ai_L) (st : List ai_V) (aw : ai_W) (cs ss : Nat) : Option ai_S := ai_gd (en.2.2.2.1 == 999) (ai_p1 st fun a r => ai_gd (ai_isR a && (decide (1 ≤ md.2.2.2.2.2.2.1.frames) && decide ((r.map ai_cat).sum + 12 ≤ md.2.2.2.2.2.2.1.locals))) (some (als, r, aw, cs, ss)))
theorem ah_iload_eq (i : Nat) (md : ai_MD) (L pc len na nb ni : Nat) (nz : Int) (G : ai_G) (als : ai_L) (st : List ai_V) (aw : ai_W) (cs ss : Nat) : ah_iload i md L (pc, (.iload i), len, na, nb, ni, nz) G als st aw cs ss = ai_simp md L (pc, (.iload i), len, na, nb, ni, nz) G als st aw cs ss := by
  unfold ah_iload ai_simp
  dsimp only
  first | (simp only [fl_get_eq, fl_set_eq, fl_flt_eq, fl_app_eq, fl_lk_eq, af_load_eq, af_sto_eq, af_sto2_eq, af_ald_eq, af_ast_eq]; done) | (simp only [fl_get_eq, fl_set_eq, fl_flt_eq, fl_app_eq, fl_lk_eq, af_load_eq, af_sto_eq, af_sto2_eq, af_ald_eq, af_ast_eq]; rfl)
theorem ah_iload_n_eq (k : Fin 4) (md : ai_MD) (L pc len na nb ni : Nat) (nz : Int) (G : ai_G) (als : ai_L) (st : List ai_V) (aw : ai_W) (cs ss : Nat) : ah_iload_n k md L (pc, (.iload_n k), len, na, nb, ni, nz) G als st aw cs ss = ai_simp md L (pc, (.iload_n k), len, na, nb, ni, nz) G als st aw cs ss := by
  unfold ah_iload_n ai_simp
  dsimp only
  first | (simp only [fl_get_eq, fl_set_eq, fl_flt_eq, fl_app_eq, fl_lk_eq, af_load_eq, af_sto_eq, af_sto2_eq, af_ald_eq, af_ast_eq]; done) | (simp only [fl_get_eq, fl_set_eq, fl_flt_eq, fl_app_eq, fl_lk_eq, af_load_eq, af_sto_eq, af_sto2_eq, af_ald_eq, af_ast_eq]; rfl)
theorem ah_lload_eq (i : Nat) (md : ai_MD) (L pc len na nb ni : Nat) (nz : Int) (G : ai_G) (als : ai_L) (st : List ai_V) (aw : ai_W) (cs ss : Nat) : ah_lload i md L (pc, (.lload i), len, na, nb, ni, nz) G als st aw cs ss = ai_simp md L (pc, (.lload i), len, na, nb, ni, nz) G als st aw cs ss := by
  unfold ah_lload ai_simp
  dsimp only
  first | (simp only [fl_get_eq, fl_set_eq, fl_flt_eq, fl_app_eq, fl_lk_eq, af_load_eq, af_sto_eq, af_sto2_eq, af_ald_eq, af_ast_eq]; done) | (simp only [fl_get_eq, fl_set_eq, fl_flt_eq, fl_app_eq, fl_lk_eq, af_load_eq, af_sto_eq, af_sto2_eq, af_ald_eq, af_ast_eq]; rfl)
theorem ah_lload_n_eq (k : Fin 4) (md : ai_MD) (L pc len na nb ni : Nat) (nz : Int) (G : ai_G) (als : ai_L) (st : List ai_V) (aw : ai_W) (cs ss : Nat) : ah_lload_n k md L (pc, (.lload_n k), len, na, nb, ni, nz) G als st aw cs ss = ai_simp md L (pc, (.lload_n k), len, na, nb, ni, nz) G als st aw cs ss := by
  unfold ah_lload_n ai_simp
  dsimp only
  first | (simp only [fl_get_eq, fl_set_eq, fl_flt_eq, fl_app_eq, fl_lk_eq, af_load_eq, af_sto_eq, af_sto2_eq, af_ald_eq, af_ast_eq]; done) | (simp only [fl_get_eq, fl_set_eq, fl_flt_eq, fl_app_eq, fl_lk_eq, af_load_eq, af_sto_eq, af_sto2_eq, af_ald_eq, af_ast_eq]; rfl)
theorem ah_aload_eq (i : Nat) (md : ai_MD) (L pc len na nb ni : Nat) (nz : Int) (G : ai_G) (als : ai_L) (st : List ai_V) (aw : ai_W) (cs ss : Nat) : ah_aload i md L (pc, (.aload i), len, na, nb, ni, nz) G als st aw cs ss = ai_simp md L (pc, (.aload i), len, na, nb, ni, nz) G als st aw cs ss := by
  unfold ah_aload ai_simp
  dsimp only
  first | (simp only [fl_get_eq, fl_set_eq, fl_flt_eq, fl_app_eq, fl_lk_eq, af_load_eq, af_sto_eq, af_sto2_eq, af_ald_eq, af_ast_eq]; done) | (simp only [fl_get_eq, fl_set_eq, fl_flt_eq, fl_app_eq, fl_lk_eq, af_load_eq, af_sto_eq, af_sto2_eq, af_ald_eq, af_ast_eq]; rfl)
theorem ah_aload_n_eq (k : Fin 4) (md : ai_MD) (L pc len na nb ni : Nat) (nz : Int) (G : ai_G) (als : ai_L) (st : List ai_V) (aw : ai_W) (cs ss : Nat) : ah_aload_n k md L (pc, (.aload_n k), len, na, nb, ni, nz) G als st aw cs ss = ai_simp md L (pc, (.aload_n k), len, na, nb, ni, nz) G als st aw cs ss := by
  unfold ah_aload_n ai_simp
  dsimp only
  first | (simp only [fl_get_eq, fl_set_eq, fl_flt_eq, fl_app_eq, fl_lk_eq, af_load_eq, af_sto_eq, af_sto2_eq, af_ald_eq, af_ast_eq]; done) | (simp only [fl_get_eq, fl_set_eq, fl_flt_eq, fl_app_eq, fl_lk_eq, af_load_eq, af_sto_eq, af_sto2_eq, af_ald_eq, af_ast_eq]; rfl)
theorem ah_istore_eq (i : Nat) (md : ai_MD) (L pc len na nb ni : Nat) (nz : Int) (G : ai_G) (als : ai_L) (st : List ai_V) (aw : ai_W) (cs ss : Nat) : ah_istore i md L (pc, (.istore i), len, na, nb, ni, nz) G als st aw cs ss = ai_simp md L (pc, (.istore i), len, na, nb, ni, nz) G als st aw cs ss := by
  unfold ah_istore ai_simp
  dsimp only
  first | (simp only [fl_get_eq, fl_set_eq, fl_flt_eq, fl_app_eq, fl_lk_eq, af_load_eq, af_sto_eq, af_sto2_eq, af_ald_eq, af_ast_eq]; done) | (simp only [fl_get_eq, fl_set_eq, fl_flt_eq, fl_app_eq, fl_lk_eq, af_load_eq, af_sto_eq, af_sto2_eq, af_ald_eq, af_ast_eq]; rfl)
theorem ah_istore_n_eq (k : Fin 4) (md : ai_MD) (L pc len na nb ni : Nat) (nz : Int) (G : ai_G) (als : ai_L) (st : List ai_V) (aw : ai_W) (cs ss : Nat) : ah_istore_n k md L (pc, (.istore_n k), len, na, nb, ni, nz) G als st aw cs ss = ai_simp md L (pc, (.istore_n k), len, na, nb, ni, nz) G als st aw cs ss := by
  unfold ah_istore_n ai_simp
  dsimp only
  first | (simp only [fl_get_eq, fl_set_eq, fl_flt_eq, fl_app_eq, fl_lk_eq, af_load_eq, af_sto_eq, af_sto2_eq, af_ald_eq, af_ast_eq]; done) | (simp only [fl_get_eq, fl_set_eq, fl_flt_eq, fl_app_eq, fl_lk_eq, af_load_eq, af_sto_eq, af_sto2_eq, af_ald_eq, af_ast_eq]; rfl)
theorem ah_astore_eq (i : Nat) (md : ai_MD) (L pc len na nb ni : Nat) (nz : Int) (G : ai_G) (als : ai_L) (st : List ai_V) (aw : ai_W) (cs ss : Nat) : ah_astore i md L (pc, (.astore i), len, na, nb, ni, nz) G als st aw cs ss = ai_simp md L (pc, (.astore i), len, na, nb, ni, nz) G als st aw cs ss := by
  unfold ah_astore ai_simp
  dsimp only
  first | (simp only [fl_get_eq, fl_set_eq, fl_flt_eq, fl_app_eq, fl_lk_eq, af_load_eq, af_sto_eq, af_sto2_eq, af_ald_eq, af_ast_eq]; done) | (simp only [fl_get_eq, fl_set_eq, fl_flt_eq, fl_app_eq, fl_lk_eq, af_load_eq, af_sto_eq, af_sto2_eq, af_ald_eq, af_ast_eq]; rfl)
theorem ah_astore_n_eq (k : Fin 4) (md : ai_MD) (L pc len na nb ni : Nat) (nz : Int) (G : ai_G) (als : ai_L) (st : List ai_V) (aw : ai_W) (cs ss : Nat) : ah_astore_n k md L (pc, (.astore_n k), len, na, nb, ni, nz) G als st aw cs ss = ai_simp md L (pc, (.astore_n k), len, na, nb, ni, nz) G als st aw cs ss := by
  unfold ah_astore_n ai_simp
  dsimp only
  first | (simp only [fl_get_eq, fl_set_eq, fl_flt_eq, fl_app_eq, fl_lk_eq, af_load_eq, af_sto_eq, af_sto2_eq, af_ald_eq, af_ast_eq]; done) | (simp only [fl_get_eq, fl_set_eq, fl_flt_eq, fl_app_eq, fl_lk_eq, af_load_eq, af_sto_eq, af_sto2_eq, af_ald_eq, af_ast_eq]; rfl)
theorem ah_lstore_eq (i : Nat) (md : ai_MD) (L pc len na nb ni : Nat) (nz : Int) (G : ai_G) (als : ai_L) (st : List ai_V) (aw : ai_W) (cs ss : Nat) : ah_lstore i md L (pc, (.lstore i), len, na, nb, ni, nz) G als st aw cs ss = ai_simp md L (pc, (.lstore i), len, na, nb, ni, nz) G als st aw cs ss := by
  unfold ah_lstore ai_simp
  dsimp only
  first | (simp only [fl_get_eq, fl_set_eq, fl_flt_eq, fl_app_eq, fl_lk_eq, af_load_eq, af_sto_eq, af_sto2_eq, af_ald_eq, af_ast_eq]; done) | (simp only [fl_get_eq, fl_set_eq, fl_flt_eq, fl_app_eq, fl_lk_eq, af_load_eq, af_sto_eq, af_sto2_eq, af_ald_eq, af_ast_eq]; rfl)
theorem ah_lstore_n_eq (k : Fin 4) (md : ai_MD) (L pc len na nb ni : Nat) (nz : Int) (G : ai_G) (als : ai_L) (st : List ai_V) (aw : ai_W) (cs ss : Nat) : ah_lstore_n k md L (pc, (.lstore_n k), len, na, nb, ni, nz) G als st aw cs ss = ai_simp md L (pc, (.lstore_n k), len, na, nb, ni, nz) G als st aw cs ss := by
  unfold ah_lstore_n ai_simp
  dsimp only
  first | (simp only [fl_get_eq, fl_set_eq, fl_flt_eq, fl_app_eq, fl_lk_eq, af_load_eq, af_sto_eq, af_sto2_eq, af_ald_eq, af_ast_eq]; done) | (simp only [fl_get_eq, fl_set_eq, fl_flt_eq, fl_app_eq, fl_lk_eq, af_load_eq, af_sto_eq, af_sto2_eq, af_ald_eq, af_ast_eq]; rfl)
theorem ah_iinc_eq (i : Nat) (n : Int) (md : ai_MD) (L pc len na nb ni : Nat) (nz : Int) (G : ai_G) (als : ai_L) (st : List ai_V) (aw : ai_W) (cs ss : Nat) : ah_iinc i n md L (pc, (.iinc i n), len, na, nb, ni, nz) G als st aw cs ss = ai_simp md L (pc, (.iinc i n), len, na, nb, ni, nz) G als st aw cs ss := by
  unfold ah_iinc ai_simp
  dsimp only
  first | (simp only [fl_get_eq, fl_set_eq, fl_flt_eq, fl_app_eq, fl_lk_eq, af_load_eq, af_sto_eq, af_sto2_eq, af_ald_eq, af_ast_eq]; done) | (simp only [fl_get_eq, fl_set_eq, fl_flt_eq, fl_app_eq, fl_lk_eq, af_load_eq, af_sto_eq, af_sto2_eq, af_ald_eq, af_ast_eq]; rfl)
theorem ah_putfield_eq (i : Nat) (md : ai_MD) (L pc len na nb ni : Nat) (nz : Int) (G : ai_G) (als : ai_L) (st : List ai_V) (aw : ai_W) (cs ss : Nat) : ah_putfield md L (pc, (.putfield i), len, na, nb, ni, nz) G als st aw cs ss = ai_simp md L (pc, (.putfield i), len, na, nb, ni, nz) G als st aw cs ss := by
  unfold ah_putfield ai_simp
  dsimp only
  simp only [fl_get_eq, fl_set_eq]
  congr 1
  funext v a r
  congr 1
  cases hc : aw[a.2.1]? with
  | none => rfl
  | some c =>
    rcases c with ⟨ci, fs⟩ | q
    · dsimp only [Option.bind]
      congr 1
      cases h : (fs[nb]? == some v) with
      | false => rfl
      | true =>
        have e : fs[nb]? = some v := by simpa using h
        simp only [cond_true]
        rw [ai_set_self e, ai_set_self hc]
    · rfl
theorem ah_iastore_eq  (md : ai_MD) (L pc len na nb ni : Nat) (nz : Int) (G : ai_G) (als : ai_L) (st : List ai_V) (aw : ai_W) (cs ss : Nat) : ah_iastore md L (pc, .iastore, len, na, nb, ni, nz) G als st aw cs ss = ai_simp md L (pc, .iastore, len, na, nb, ni, nz) G als st aw cs ss := by
  unfold ah_iastore ai_simp
  dsimp only
  first | (simp only [fl_get_eq, fl_set_eq, fl_flt_eq, fl_app_eq, fl_lk_eq, af_load_eq, af_sto_eq, af_sto2_eq, af_ald_eq, af_ast_eq]; done) | (simp only [fl_get_eq, fl_set_eq, fl_flt_eq, fl_app_eq, fl_lk_eq, af_load_eq, af_sto_eq, af_sto2_eq, af_ald_eq, af_ast_eq]; rfl)
theorem ah_lastore_eq  (md : ai_MD) (L pc len na nb ni : Nat) (nz : Int) (G : ai_G) (als : ai_L) (st : List ai_V) (aw : ai_W) (cs ss : Nat) : ah_lastore md L (pc, .lastore, len, na, nb, ni, nz) G als st aw cs ss = ai_simp md L (pc, .lastore, len, na, nb, ni, nz) G als st aw cs ss := by
  unfold ah_lastore ai_simp
  dsimp only
  first | (simp only [fl_get_eq, fl_set_eq, fl_flt_eq, fl_app_eq, fl_lk_eq, af_load_eq, af_sto_eq, af_sto2_eq, af_ald_eq, af_ast_eq]; done) | (simp only [fl_get_eq, fl_set_eq, fl_flt_eq, fl_app_eq, fl_lk_eq, af_load_eq, af_sto_eq, af_sto2_eq, af_ald_eq, af_ast_eq]; rfl)
theorem ah_bastore_eq  (md : ai_MD) (L pc len na nb ni : Nat) (nz : Int) (G : ai_G) (als : ai_L) (st : List ai_V) (aw : ai_W) (cs ss : Nat) : ah_bastore md L (pc, .bastore, len, na, nb, ni, nz) G als st aw cs ss = ai_simp md L (pc, .bastore, len, na, nb, ni, nz) G als st aw cs ss := by
  unfold ah_bastore ai_simp
  dsimp only
  first | (simp only [fl_get_eq, fl_set_eq, fl_flt_eq, fl_app_eq, fl_lk_eq, af_load_eq, af_sto_eq, af_sto2_eq, af_ald_eq, af_ast_eq]; done) | (simp only [fl_get_eq, fl_set_eq, fl_flt_eq, fl_app_eq, fl_lk_eq, af_load_eq, af_sto_eq, af_sto2_eq, af_ald_eq, af_ast_eq]; rfl)
theorem ah_aastore_eq  (md : ai_MD) (L pc len na nb ni : Nat) (nz : Int) (G : ai_G) (als : ai_L) (st : List ai_V) (aw : ai_W) (cs ss : Nat) : ah_aastore md L (pc, .aastore, len, na, nb, ni, nz) G als st aw cs ss = ai_simp md L (pc, .aastore, len, na, nb, ni, nz) G als st aw cs ss := by
  unfold ah_aastore ai_simp
  dsimp only
  first | (simp only [fl_get_eq, fl_set_eq, fl_flt_eq, fl_app_eq, fl_lk_eq, af_load_eq, af_sto_eq, af_sto2_eq, af_ald_eq, af_ast_eq]; done) | (simp only [fl_get_eq, fl_set_eq, fl_flt_eq, fl_app_eq, fl_lk_eq, af_load_eq, af_sto_eq, af_sto2_eq, af_ald_eq, af_ast_eq]; rfl)
theorem ah_arraylength_eq  (md : ai_MD) (L pc len na nb ni : Nat) (nz : Int) (G : ai_G) (als : ai_L) (st : List ai_V) (aw : ai_W) (cs ss : Nat) : ah_arraylength md L (pc, .arraylength, len, na, nb, ni, nz) G als st aw cs ss = ai_simp md L (pc, .arraylength, len, na, nb, ni, nz) G als st aw cs ss := by
  unfold ah_arraylength ai_simp
  dsimp only
  first | (simp only [fl_get_eq, fl_set_eq, fl_flt_eq, fl_app_eq, fl_lk_eq, af_load_eq, af_sto_eq, af_sto2_eq, af_ald_eq, af_ast_eq]; done) | (simp only [fl_get_eq, fl_set_eq, fl_flt_eq, fl_app_eq, fl_lk_eq, af_load_eq, af_sto_eq, af_sto2_eq, af_ald_eq, af_ast_eq]; rfl)
theorem ah_new_eq (i : Nat) (md : ai_MD) (L pc len na nb ni : Nat) (nz : Int) (G : ai_G) (als : ai_L) (st : List ai_V) (aw : ai_W) (cs ss : Nat) : ah_new md L (pc, (.new i), len, na, nb, ni, nz) G als st aw cs ss = ai_simp md L (pc, (.new i), len, na, nb, ni, nz) G als st aw cs ss := by
  unfold ah_new ai_simp
  dsimp only
  first | (simp only [fl_get_eq, fl_set_eq, fl_flt_eq, fl_app_eq, fl_lk_eq, af_load_eq, af_sto_eq, af_sto2_eq, af_ald_eq, af_ast_eq]; done) | (simp only [fl_get_eq, fl_set_eq, fl_flt_eq, fl_app_eq, fl_lk_eq, af_load_eq, af_sto_eq, af_sto2_eq, af_ald_eq, af_ast_eq]; rfl)
theorem ah_newarray_eq (t : ArrayType) (md : ai_MD) (L pc len na nb ni : Nat) (nz : Int) (G : ai_G) (als : ai_L) (st : List ai_V) (aw : ai_W) (cs ss : Nat) : ah_newarray t md L (pc, (.newarray t), len, na, nb, ni, nz) G als st aw cs ss = ai_simp md L (pc, (.newarray t), len, na, nb, ni, nz) G als st aw cs ss := by
  unfold ah_newarray ai_simp
  dsimp only
  first | (simp only [fl_get_eq, fl_set_eq, fl_flt_eq, fl_app_eq, fl_lk_eq, af_load_eq, af_sto_eq, af_sto2_eq, af_ald_eq, af_ast_eq]; done) | (simp only [fl_get_eq, fl_set_eq, fl_flt_eq, fl_app_eq, fl_lk_eq, af_load_eq, af_sto_eq, af_sto2_eq, af_ald_eq, af_ast_eq]; rfl)
theorem ah_anewarray_eq (i : Nat) (md : ai_MD) (L pc len na nb ni : Nat) (nz : Int) (G : ai_G) (als : ai_L) (st : List ai_V) (aw : ai_W) (cs ss : Nat) : ah_anewarray md L (pc, (.anewarray i), len, na, nb, ni, nz) G als st aw cs ss = ai_simp md L (pc, (.anewarray i), len, na, nb, ni, nz) G als st aw cs ss := by
  unfold ah_anewarray ai_simp
  dsimp only
  first | (simp only [fl_get_eq, fl_set_eq, fl_flt_eq, fl_app_eq, fl_lk_eq, af_load_eq, af_sto_eq, af_sto2_eq, af_ald_eq, af_ast_eq]; done) | (simp only [fl_get_eq, fl_set_eq, fl_flt_eq, fl_app_eq, fl_lk_eq, af_load_eq, af_sto_eq, af_sto2_eq, af_ald_eq, af_ast_eq]; rfl)
noncomputable def af_disp (ins : Instr) : ai_MD → Nat → ai_E → ai_G → ai_L → List ai_V → ai_W → Nat → Nat → Option ai_S := match ins with
  | .iconst n => ah_iconst n
  | .bipush n => ah_bipush n
  | .sipush n => ah_sipush n
  | .lconst n => ah_lconst n
  | .ldc _ => ah_ldc
  | .ldc_w _ => ah_ldc_w
  | .ldc2_w _ => ah_ldc2_w
  | .iload i => ah_iload i
  | .iload_n k => ah_iload_n k
  | .lload i => ah_lload i
  | .lload_n k => ah_lload_n k
  | .aload i => ah_aload i
  | .aload_n k => ah_aload_n k
  | .istore i => ah_istore i
  | .istore_n k => ah_istore_n k
  | .astore i => ah_astore i
  | .astore_n k => ah_astore_n k
  | .lstore i => ah_lstore i
  | .lstore_n k => ah_lstore_n k
  | .iinc i n => ah_iinc i n
  | .iadd => ah_iadd
  | .isub => ah_isub
  | .imul => ah_imul
  | .iand => ah_iand
  | .ior => ah_ior
  | .ixor => ah_ixor
  | .ishl => ah_ishl
  | .ishr => ah_ishr
  | .iushr => ah_iushr
  | .idiv => ah_idiv
  | .irem => ah_irem
  | .ladd => ah_ladd
  | .lsub => ah_lsub
  | .lmul => ah_lmul
  | .ldiv => ah_ldiv
  | .lrem => ah_lrem
  | .lshl => ah_lshl
  | .i2l => ah_i2l
  | .l2i => ah_l2i
  | .ineg => ah_ineg
  | .dup => ah_dup
  | .pop => ah_pop
  | .dup2 => ah_dup2
  | .putfield _ => ah_putfield
  | .iaload => ah_iaload
  | .iastore => ah_iastore
  | .lastore => ah_lastore
  | .bastore => ah_bastore
  | .aastore => ah_aastore
  | .arraylength => ah_arraylength
  | .new _ => ah_new
  | .newarray t => ah_newarray t
  | .anewarray _ => ah_anewarray
  | .invokestatic _ => ah_invokestatic
  | .invokespecial _ => ah_invokespecial
  | _ => fun _ _ _ _ _ _ _ _ _ => none
theorem af_disp_eq (md : ai_MD) (L : Nat) (en : ai_E) (G : ai_G) (als : ai_L) (st : List ai_V) (aw : ai_W) (cs ss : Nat) : af_disp en.2.1 md L en G als st aw cs ss = ai_simp md L en G als st aw cs ss := by
  obtain ⟨pc, ins, len, na, nb, ni, nz⟩ := en
  dsimp only
  cases ins with
  | iload i => exact ah_iload_eq i md L pc len na nb ni nz G als st aw cs ss
  | iload_n k => exact ah_iload_n_eq k md L pc len na nb ni nz G als st aw cs ss
  | lload i => exact ah_lload_eq i md L pc len na nb ni nz G als st aw cs ss
  | lload_n k => exact ah_lload_n_eq k md L pc len na nb ni nz G als st aw cs ss
  | aload i => exact ah_aload_eq i md L pc len na nb ni nz G als st aw cs ss
  | aload_n k => exact ah_aload_n_eq k md L pc len na nb ni nz G als st aw cs ss
  | istore i => exact ah_istore_eq i md L pc len na nb ni nz G als st aw cs ss
  | istore_n k => exact ah_istore_n_eq k md L pc len na nb ni nz G als st aw cs ss
  | astore i => exact ah_astore_eq i md L pc len na nb ni nz G als st aw cs ss
  | astore_n k => exact ah_astore_n_eq k md L pc len na nb ni nz G als st aw cs ss
  | lstore i => exact ah_lstore_eq i md L pc len na nb ni nz G als st aw cs ss
  | lstore_n k => exact ah_lstore_n_eq k md L pc len na nb ni nz G als st aw cs ss
  | iinc i n => exact ah_iinc_eq i n md L pc len na nb ni nz G als st aw cs ss
  | putfield i => exact ah_putfield_eq i md L pc len na nb ni nz G als st aw cs ss
  | iastore => exact ah_iastore_eq md L pc len na nb ni nz G als st aw cs ss
  | lastore => exact ah_lastore_eq md L pc len na nb ni nz G als st aw cs ss
  | bastore => exact ah_bastore_eq md L pc len na nb ni nz G als st aw cs ss
  | aastore => exact ah_aastore_eq md L pc len na nb ni nz G als st aw cs ss
  | arraylength => exact ah_arraylength_eq md L pc len na nb ni nz G als st aw cs ss
  | new i => exact ah_new_eq i md L pc len na nb ni nz G als st aw cs ss
  | newarray t => exact ah_newarray_eq t md L pc len na nb ni nz G als st aw cs ss
  | anewarray i => exact ah_anewarray_eq i md L pc len na nb ni nz G als st aw cs ss
  | _ => rfl
noncomputable def af_rcv (aw : ai_W) (a : ai_V) (ci : Nat) : Bool := ai_isR a && (match fl_get aw a.2.1 with
  | some (.inl (k, _)) => k == ci
  | _ => false)
theorem af_rcv_eq (aw : ai_W) (a : ai_V) (ci : Nat) : af_rcv aw a ci = ai_rcv aw a ci := by
  unfold af_rcv ai_rcv
  rw [fl_get_eq]
  rfl
noncomputable def af_gs {β : Type} (G : ai_G) (a : ai_V) (q : Int × Int) (f : ai_G → β) : β := Bool.rec (motive := fun _ => β) (f G) (match fl_get G a.2.1 with
  | some r => fl_set G a.2.1 (q.1 - a.2.2.1, q.2 - a.2.2.1, r.2.2) f
  | none => f G) (ai_tok a)
theorem af_gs_eq {β : Type} (G : ai_G) (a : ai_V) (q : Int × Int) (f : ai_G → β) : af_gs G a q f = f (ai_gs G a q) := by
  unfold af_gs ai_gs
  rw [fl_get_eq]
  cases ai_tok a with
  | false => rfl
  | true =>
    cases G[a.2.1]? with
    | none => rfl
    | some r => exact fl_set_eq _ _ _ _
noncomputable def af_ref2 {β : Type} (G : ai_G) (op : Nat) (a b : ai_V) (f : ai_G → β) : β := af_gs G a (ai_rf op (ai_b G a) (ai_b G b)) (fun G1 => af_gs G1 b (ai_rf (ai_fl op) (ai_b G b) (ai_b G a)) f)
theorem af_ref2_eq {β : Type} (G : ai_G) (op : Nat) (a b : ai_V) (f : ai_G → β) : af_ref2 G op a b f = f (ai_ref2 G op a b) := by
  unfold af_ref2 ai_ref2
  rw [af_gs_eq, af_gs_eq]
noncomputable def af_wy (G : ai_G) (op : Nat) (a b : ai_V) (k : ai_G → Option (List ai_O)) : Option (List ai_O) := bif ai_wy1 G op a b then ai_join (af_ref2 G 2 a b k) (ai_join (af_ref2 G 4 a b k) (some [])) else bif ai_wy2 G a b then ai_join (af_ref2 G op a b (fun G1 => fl_app G1 (ai_wyq G op a b) k)) (some []) else ai_join (af_ref2 G op a b k) (some [])
theorem af_wy_eq (G : ai_G) (op : Nat) (a b : ai_V) (k : ai_G → Option (List ai_O)) : af_wy G op a b k = ai_all k (ai_wy G op a b) := by
  unfold af_wy ai_wy
  simp only [af_ref2_eq, fl_app_eq]
  cases ai_wy1 G op a b with
  | true => rfl
  | false =>
    cases ai_wy2 G a b <;> rfl
noncomputable def af_br (f : List ai_E → ai_G → ai_S → Option (List ai_O)) (op : Nat) (a b : ai_V) (tgt fall : List ai_E) (G : ai_G) (x : ai_S) : Option (List ai_O) := match ai_dc G op a b with
  | some true => f tgt G x
  | some false => f fall G x
  | none => ai_join (af_wy G op a b (fun G' => f tgt G' x)) (af_wy G (ai_ng op) a b (fun G' => f fall G' x))
theorem af_br_eq (f : List ai_E → ai_G → ai_S → Option (List ai_O)) (op : Nat) (a b : ai_V) (tgt fall : List ai_E) (G : ai_G) (x : ai_S) : af_br f op a b tgt fall G x = ai_br f op a b tgt fall G x := by
  unfold af_br ai_br
  rw [af_wy_eq, af_wy_eq]
  rfl
noncomputable def ac_goto (off : Int) (T : Nat → ai_MD) (B : Nat → Nat → List ai_E) (hk : ai_H) (jn : Nat → Option ai_Iv) (run : Nat → ai_G → List ai_V → ai_W → Option (List ai_O)) (f : List ai_E → ai_G → ai_S → Option (List ai_O)) (self : ai_G → Option (List ai_O)) (M : Nat) (en : ai_E) (rest : List ai_E) (G : ai_G) (x : ai_S) : Option (List ai_O) := f (B M ((en.1 : Int) + off).toNat) G x
noncomputable def ac_ifCond (q : Jvm.ClassFile.Cond) (off : Int) (T : Nat → ai_MD) (B : Nat → Nat → List ai_E) (hk : ai_H) (jn : Nat → Option ai_Iv) (run : Nat → ai_G → List ai_V → ai_W → Option (List ai_O)) (f : List ai_E → ai_G → ai_S → Option (List ai_O)) (self : ai_G → Option (List ai_O)) (M : Nat) (en : ai_E) (rest : List ai_E) (G : ai_G) (x : ai_S) : Option (List ai_O) := ai_p1 x.2.1 fun a r => ai_gd (ai_isI a) (af_br f (ai_op q) a (ai_lI 0) (B M ((en.1 : Int) + off).toNat) rest G (x.1, r, x.2.2))
noncomputable def ac_if_icmp (q : Jvm.ClassFile.Cond) (off : Int) (T : Nat → ai_MD) (B : Nat → Nat → List ai_E) (hk : ai_H) (jn : Nat → Option ai_Iv) (run : Nat → ai_G → List ai_V → ai_W → Option (List ai_O)) (f : List ai_E → ai_G → ai_S → Option (List ai_O)) (self : ai_G → Option (List ai_O)) (M : Nat) (en : ai_E) (rest : List ai_E) (G : ai_G) (x : ai_S) : Option (List ai_O) := ai_p2 x.2.1 fun b a r => ai_gd (ai_isI a && ai_isI b) (af_br f (ai_op q) a b (B M ((en.1 : Int) + off).toNat) rest G (x.1, r, x.2.2))
noncomputable def ac_lcmp (T : Nat → ai_MD) (B : Nat → Nat → List ai_E) (hk : ai_H) (jn : Nat → Option ai_Iv) (run : Nat → ai_G → List ai_V → ai_W → Option (List ai_O)) (f : List ai_E → ai_G → ai_S → Option (List ai_O)) (self : ai_G → Option (List ai_O)) (M : Nat) (en : ai_E) (rest : List ai_E) (G : ai_G) (x : ai_S) : Option (List ai_O) := match rest with
    | en2 :: rest2 => match en2.2.1 with
      | .ifCond q off => ai_p2 x.2.1 fun b a r => ai_gd (ai_isL a && ai_isL b) (af_br f (ai_op q) a b (B M ((en2.1 : Int) + off).toNat) rest2 G (x.1, r, x.2.2))
      | _ => none
    | [] => none
noncomputable def ac_ifnonnull (off : Int) (T : Nat → ai_MD) (B : Nat → Nat → List ai_E) (hk : ai_H) (jn : Nat → Option ai_Iv) (run : Nat → ai_G → List ai_V → ai_W → Option (List ai_O)) (f : List ai_E → ai_G → ai_S → Option (List ai_O)) (self : ai_G → Option (List ai_O)) (M : Nat) (en : ai_E) (rest : List ai_E) (G : ai_G) (x : ai_S) : Option (List ai_O) := ai_p1 x.2.1 fun a r => bif a.1 == 5 then f rest G (x.1, r, x.2.2) else ai_gd (ai_isR a) (f (B M ((en.1 : Int) + off).toNat) G (x.1, r, x.2.2))
noncomputable def ac_tableswitch (dflt : Int) (lo : Int) (hi : Int) (offs : Array Int) (T : Nat → ai_MD) (B : Nat → Nat → List ai_E) (hk : ai_H) (jn : Nat → Option ai_Iv) (run : Nat → ai_G → List ai_V → ai_W → Option (List ai_O)) (f : List ai_E → ai_G → ai_S → Option (List ai_O)) (self : ai_G → Option (List ai_O)) (M : Nat) (en : ai_E) (rest : List ai_E) (G : ai_G) (x : ai_S) : Option (List ai_O) := ai_p1 x.2.1 fun a r => ai_gd (ai_isI a && decide (offs.toList.length = (hi - lo + 1).toNat)) (ai_join (bif decide ((ai_b G a).1 < lo) then f (B M ((en.1 : Int) + dflt).toNat) (ai_ref2 G 2 a (ai_lI lo)) (x.1, r, x.2.2) else some []) (ai_join (bif decide (hi < (ai_b G a).2) then f (B M ((en.1 : Int) + dflt).toNat) (ai_ref2 G 4 a (ai_lI hi)) (x.1, r, x.2.2) else some []) (ai_swt (fun G' off => f (B M ((en.1 : Int) + off).toNat) G' (x.1, r, x.2.2)) G a lo offs.toList)))
noncomputable def ac_lookupswitch (dflt : Int) (ps : Array (Int × Int)) (T : Nat → ai_MD) (B : Nat → Nat → List ai_E) (hk : ai_H) (jn : Nat → Option ai_Iv) (run : Nat → ai_G → List ai_V → ai_W → Option (List ai_O)) (f : List ai_E → ai_G → ai_S → Option (List ai_O)) (self : ai_G → Option (List ai_O)) (M : Nat) (en : ai_E) (rest : List ai_E) (G : ai_G) (x : ai_S) : Option (List ai_O) := ai_p1 x.2.1 fun a r => ai_gd (ai_isI a && (ps.toList.zip (ps.toList.drop 1)).all (fun (a, next) => a.1 < next.1)) (ai_join (f (B M ((en.1 : Int) + dflt).toNat) G (x.1, r, x.2.2)) (ai_lks (fun G' off => f (B M ((en.1 : Int) + off).toNat) G' (x.1, r, x.2.2)) G a ps.toList))
noncomputable def ac_aaload (T : Nat → ai_MD) (B : Nat → Nat → List ai_E) (hk : ai_H) (jn : Nat → Option ai_Iv) (run : Nat → ai_G → List ai_V → ai_W → Option (List ai_O)) (f : List ai_E → ai_G → ai_S → Option (List ai_O)) (self : ai_G → Option (List ai_O)) (M : Nat) (en : ai_E) (rest : List ai_E) (G : ai_G) (x : ai_S) : Option (List ai_O) := ai_p2 x.2.1 fun i _ _ => ai_gd (ai_isI i && (!(ai_one G i) && decide ((ai_b G i).2 ≤ (ai_b G i).1 + 30))) (ai_swt (fun G' _ => self G') G i (ai_b G i).1 (List.replicate ((ai_b G i).2 - (ai_b G i).1 + 1).toNat 0))
noncomputable def ac_ireturn (T : Nat → ai_MD) (B : Nat → Nat → List ai_E) (hk : ai_H) (jn : Nat → Option ai_Iv) (run : Nat → ai_G → List ai_V → ai_W → Option (List ai_O)) (f : List ai_E → ai_G → ai_S → Option (List ai_O)) (self : ai_G → Option (List ai_O)) (M : Nat) (en : ai_E) (rest : List ai_E) (G : ai_G) (x : ai_S) : Option (List ai_O) := ai_gd (ai_retB (T M) en.2.1 G x.2.1 && (decide (x.2.2.2.1 ≤ (T M).2.2.2.2.2.2.1.cells) && decide (x.2.2.2.2 ≤ (T M).2.2.2.2.2.2.1.slots))) (some [(en.1, G, x)])
noncomputable def ac_lreturn (T : Nat → ai_MD) (B : Nat → Nat → List ai_E) (hk : ai_H) (jn : Nat → Option ai_Iv) (run : Nat → ai_G → List ai_V → ai_W → Option (List ai_O)) (f : List ai_E → ai_G → ai_S → Option (List ai_O)) (self : ai_G → Option (List ai_O)) (M : Nat) (en : ai_E) (rest : List ai_E) (G : ai_G) (x : ai_S) : Option (List ai_O) := ai_gd (ai_retB (T M) en.2.1 G x.2.1 && (decide (x.2.2.2.1 ≤ (T M).2.2.2.2.2.2.1.cells) && decide (x.2.2.2.2 ≤ (T M).2.2.2.2.2.2.1.slots))) (some [(en.1, G, x)])
noncomputable def ac_return (T : Nat → ai_MD) (B : Nat → Nat → List ai_E) (hk : ai_H) (jn : Nat → Option ai_Iv) (run : Nat → ai_G → List ai_V → ai_W → Option (List ai_O)) (f : List ai_E → ai_G → ai_S → Option (List ai_O)) (self : ai_G → Option (List ai_O)) (M : Nat) (en : ai_E) (rest : List ai_E) (G : ai_G) (x : ai_S) : Option (List ai_O) := ai_gd (ai_retB (T M) en.2.1 G x.2.1 && (decide (x.2.2.2.1 ≤ (T M).2.2.2.2.2.2.1.cells) && decide (x.2.2.2.2 ≤ (T M).2.2.2.2.2.2.1.slots))) (some [(en.1, G, x)])
noncomputable def ac_invokestatic (T : Nat → ai_MD) (B : Nat → Nat → List ai_E) (hk : ai_H) (jn : Nat → Option ai_Iv) (run : Nat → ai_G → List ai_V → ai_W → Option (List ai_O)) (f : List ai_E → ai_G → ai_S → Option (List ai_O)) (self : ai_G → Option (List ai_O)) (M : Nat) (en : ai_E) (rest : List ai_E) (G : ai_G) (x : ai_S) : Option (List ai_O) := ai_gd (Nat.blt en.2.2.2.1 900 && (T en.2.2.2.1).2.2.2.2.2.2.2 == 1) (ai_call T hk jn run (f rest) M en.2.2.2.1 G x (T en.2.2.2.1).2.2.2.2.2.1)
noncomputable def ac_invokespecial (T : Nat → ai_MD) (B : Nat → Nat → List ai_E) (hk : ai_H) (jn : Nat → Option ai_Iv) (run : Nat → ai_G → List ai_V → ai_W → Option (List ai_O)) (f : List ai_E → ai_G → ai_S → Option (List ai_O)) (self : ai_G → Option (List ai_O)) (M : Nat) (en : ai_E) (rest : List ai_E) (G : ai_G) (x : ai_S) : Option (List ai_O) := ai_gd (!(en.2.2.2.1 == 999) && ((T en.2.2.2.1).2.2.2.2.2.2.2 == 2 && (match x.2.1.drop (T en.2.2.2.1).2.2.2.2.2.1 with
    | a :: _ => af_rcv x.2.2.1 a en.2.2.2.2.1
    | [] => false))) (ai_call T hk jn run (f rest) M en.2.2.2.1 G x ((T en.2.2.2.1).2.2.2.2.2.1 + 1))
noncomputable def ac_invokevirtual (T : Nat → ai_MD) (B : Nat → Nat → List ai_E) (hk : ai_H) (jn : Nat → Option ai_Iv) (run : Nat → ai_G → List ai_V → ai_W → Option (List ai_O)) (f : List ai_E → ai_G → ai_S → Option (List ai_O)) (self : ai_G → Option (List ai_O)) (M : Nat) (en : ai_E) (rest : List ai_E) (G : ai_G) (x : ai_S) : Option (List ai_O) := ai_gd ((T en.2.2.2.1).2.2.2.2.2.2.2 == 0 && (match x.2.1.drop (T en.2.2.2.1).2.2.2.2.2.1 with
    | a :: _ => af_rcv x.2.2.1 a en.2.2.2.2.1
    | [] => false)) (ai_call T hk jn run (f rest) M en.2.2.2.1 G x ((T en.2.2.2.1).2.2.2.2.2.1 + 1))
theorem ac_ifCond_eq (q : Jvm.ClassFile.Cond) (off : Int) (pc len na nb ni : Nat) (nz : Int) (T : Nat → ai_MD) (B : Nat → Nat → List ai_E) (hk : ai_H) (jn : Nat → Option ai_Iv) (run : Nat → ai_G → List ai_V → ai_W → Option (List ai_O)) (f : List ai_E → ai_G → ai_S → Option (List ai_O)) (self : ai_G → Option (List ai_O)) (M : Nat) (rest : List ai_E) (G : ai_G) (x : ai_S) : ac_ifCond q off T B hk jn run f self M (pc, (.ifCond q off), len, na, nb, ni, nz) rest G x = ai_ctl T B hk jn run f self M (pc, (.ifCond q off), len, na, nb, ni, nz) rest G x := by
  unfold ac_ifCond ai_ctl
  dsimp only
  first | (simp only [af_rcv_eq, af_br_eq]; done) | (simp only [af_rcv_eq, af_br_eq]; rfl)
theorem ac_if_icmp_eq (q : Jvm.ClassFile.Cond) (off : Int) (pc len na nb ni : Nat) (nz : Int) (T : Nat → ai_MD) (B : Nat → Nat → List ai_E) (hk : ai_H) (jn : Nat → Option ai_Iv) (run : Nat → ai_G → List ai_V → ai_W → Option (List ai_O)) (f : List ai_E → ai_G → ai_S → Option (List ai_O)) (self : ai_G → Option (List ai_O)) (M : Nat) (rest : List ai_E) (G : ai_G) (x : ai_S) : ac_if_icmp q off T B hk jn run f self M (pc, (.if_icmp q off), len, na, nb, ni, nz) rest G x = ai_ctl T B hk jn run f self M (pc, (.if_icmp q off), len, na, nb, ni, nz) rest G x := by
  unfold ac_if_icmp ai_ctl
  dsimp only
  first | (simp only [af_rcv_eq, af_br_eq]; done) | (simp only [af_rcv_eq, af_br_eq]; rfl)
theorem ac_lcmp_eq  (pc len na nb ni : Nat) (nz : Int) (T : Nat → ai_MD) (B : Nat → Nat → List ai_E) (hk : ai_H) (jn : Nat → Option ai_Iv) (run : Nat → ai_G → List ai_V → ai_W → Option (List ai_O)) (f : List ai_E → ai_G → ai_S → Option (List ai_O)) (self : ai_G → Option (List ai_O)) (M : Nat) (rest : List ai_E) (G : ai_G) (x : ai_S) : ac_lcmp T B hk jn run f self M (pc, .lcmp, len, na, nb, ni, nz) rest G x = ai_ctl T B hk jn run f self M (pc, .lcmp, len, na, nb, ni, nz) rest G x := by
  unfold ac_lcmp ai_ctl
  dsimp only
  first | (simp only [af_rcv_eq, af_br_eq]; done) | (simp only [af_rcv_eq, af_br_eq]; rfl)
theorem ac_invokespecial_eq (i : Nat) (pc len na nb ni : Nat) (nz : Int) (T : Nat → ai_MD) (B : Nat → Nat → List ai_E) (hk : ai_H) (jn : Nat → Option ai_Iv) (run : Nat → ai_G → List ai_V → ai_W → Option (List ai_O)) (f : List ai_E → ai_G → ai_S → Option (List ai_O)) (self : ai_G → Option (List ai_O)) (M : Nat) (rest : List ai_E) (G : ai_G) (x : ai_S) : ac_invokespecial T B hk jn run f self M (pc, (.invokespecial i), len, na, nb, ni, nz) rest G x = ai_ctl T B hk jn run f self M (pc, (.invokespecial i), len, na, nb, ni, nz) rest G x := by
  unfold ac_invokespecial ai_ctl
  dsimp only
  first | (simp only [af_rcv_eq, af_br_eq]; done) | (simp only [af_rcv_eq, af_br_eq]; rfl)
theorem ac_invokevirtual_eq (i : Nat) (pc len na nb ni : Nat) (nz : Int) (T : Nat → ai_MD) (B : Nat → Nat → List ai_E) (hk : ai_H) (jn : Nat → Option ai_Iv) (run : Nat → ai_G → List ai_V → ai_W → Option (List ai_O)) (f : List ai_E → ai_G → ai_S → Option (List ai_O)) (self : ai_G → Option (List ai_O)) (M : Nat) (rest : List ai_E) (G : ai_G) (x : ai_S) : ac_invokevirtual T B hk jn run f self M (pc, (.invokevirtual i), len, na, nb, ni, nz) rest G x = ai_ctl T B hk jn run f self M (pc, (.invokevirtual i), len, na, nb, ni, nz) rest G x := by
  unfold ac_invokevirtual ai_ctl
  dsimp only
  first | (simp only [af_rcv_eq, af_br_eq]; done) | (simp only [af_rcv_eq, af_br_eq]; rfl)
noncomputable def af_ctl (ins : Instr) : (Nat → ai_MD) → (Nat → Nat → List ai_E) → ai_H → (Nat → Option ai_Iv) → (Nat → ai_G → List ai_V → ai_W → Option (List ai_O)) → (List ai_E → ai_G → ai_S → Option (List ai_O)) → (ai_G → Option (List ai_O)) → Nat → ai_E → List ai_E → ai_G → ai_S → Option (List ai_O) := match ins with
  | .goto off => ac_goto off
  | .ifCond q off => ac_ifCond q off
  | .if_icmp q off => ac_if_icmp q off
  | .lcmp => ac_lcmp
  | .ifnonnull off => ac_ifnonnull off
  | .tableswitch dflt lo hi offs => ac_tableswitch dflt lo hi offs
  | .lookupswitch dflt ps => ac_lookupswitch dflt ps
  | .aaload => ac_aaload
  | .ireturn => ac_ireturn
  | .lreturn => ac_lreturn
  | .return_ => ac_return
  | .invokestatic _ => ac_invokestatic
  | .invokespecial _ => ac_invokespecial
  | .invokevirtual _ => ac_invokevirtual
  | _ => fun _ _ _ _ _ _ _ _ _ _ _ _ => none
theorem af_ctl_eq (T : Nat → ai_MD) (B : Nat → Nat → List ai_E) (hk : ai_H) (jn : Nat → Option ai_Iv) (run : Nat → ai_G → List ai_V → ai_W → Option (List ai_O)) (f : List ai_E → ai_G → ai_S → Option (List ai_O)) (self : ai_G → Option (List ai_O)) (M : Nat) (en : ai_E) (rest : List ai_E) (G : ai_G) (x : ai_S) : af_ctl en.2.1 T B hk jn run f self M en rest G x = ai_ctl T B hk jn run f self M en rest G x := by
  obtain ⟨pc, ins, len, na, nb, ni, nz⟩ := en
  dsimp only
  cases ins with
  | ifCond q off => exact ac_ifCond_eq q off pc len na nb ni nz T B hk jn run f self M rest G x
  | if_icmp q off => exact ac_if_icmp_eq q off pc len na nb ni nz T B hk jn run f self M rest G x
  | lcmp => exact ac_lcmp_eq pc len na nb ni nz T B hk jn run f self M rest G x
  | invokespecial i => exact ac_invokespecial_eq i pc len na nb ni nz T B hk jn run f self M rest G x
  | invokevirtual i => exact ac_invokevirtual_eq i pc len na nb ni nz T B hk jn run f self M rest G x
  | _ => rfl
theorem ai_ex_succ (T : Nat → ai_MD) (B : Nat → Nat → List ai_E) (hk : ai_H) (N : ai_Ns) (L n M : Nat) (stops : List Nat) (en : ai_E) (rest : List ai_E) (G : ai_G) (x : ai_S) : ai_ex T B hk N L (n + 1) M stops (en :: rest) G x = (match ai_simp (T M) L en G x.1 x.2.1 x.2.2.1 x.2.2.2.1 x.2.2.2.2 with
      | some y => ai_to (ai_ex T B hk N L n M) (B M) (N.1 M) (N.2.1 M) stops rest G y
      | none => match ai_rdm en G x.1 x.2.1 x.2.2.1 x.2.2.2.1 x.2.2.2.2 with
        | some y => ai_to (ai_ex T B hk N L n M) (B M) (N.1 M) (N.2.1 M) stops rest y.1 y.2
        | none => ai_ctl T B hk N.2.2 (fun K G as aw => ai_ex T B hk N L n K [] (B K 0) G (ai_arg 0 as, [], aw, 0, 0)) (ai_to (ai_ex T B hk N L n M) (B M) (N.1 M) (N.2.1 M) stops) (fun G' => ai_ex T B hk N L n M stops (en :: rest) G' x) M en rest G x) := rfl
noncomputable def af_step (T : Nat → ai_MD) (B : Nat → Nat → List ai_E) (hk : ai_H) (N : ai_Ns) (L : Nat) (ih : Nat → List Nat → List ai_E → ai_G → ai_S → Option (List ai_O)) (M : Nat) (stops : List Nat) (code : List ai_E) (G : ai_G) (x : ai_S) : Option (List ai_O) := match code with
  | [] => none
  | en :: rest => match af_disp en.2.1 (T M) L en G x.1 x.2.1 x.2.2.1 x.2.2.2.1 x.2.2.2.2 with
    | some y => ai_to (ih M) (B M) (N.1 M) (N.2.1 M) stops rest G y
    | none => match af_rdm en.2.1 en G x.1 x.2.1 x.2.2.1 x.2.2.2.1 x.2.2.2.2 with
      | some y => ai_to (ih M) (B M) (N.1 M) (N.2.1 M) stops rest y.1 y.2
      | none => af_ctl en.2.1 T B hk N.2.2 (fun K G as aw => ih K [] (B K 0) G (ai_arg 0 as, [], aw, 0, 0)) (ai_to (ih M) (B M) (N.1 M) (N.2.1 M) stops) (fun G' => ih M stops (en :: rest) G' x) M en rest G x
noncomputable def af_ex (T : Nat → ai_MD) (B : Nat → Nat → List ai_E) (hk : ai_H) (N : ai_Ns) (L n : Nat) : Nat → List Nat → List ai_E → ai_G → ai_S → Option (List ai_O) := Nat.rec (fun _ _ _ _ _ => none) (fun _ ih => af_step T B hk N L ih) n
theorem af_ex_eq (T : Nat → ai_MD) (B : Nat → Nat → List ai_E) (hk : ai_H) (N : ai_Ns) (L : Nat) : ∀ n : Nat, af_ex T B hk N L n = ai_ex T B hk N L n
  | 0 => by
    funext M stops code G x
    rfl
  | n + 1 => by
    funext M stops code G x
    show af_step T B hk N L (af_ex T B hk N L n) M stops code G x = _
    rw [af_ex_eq T B hk N L n]
    cases code with
    | nil => rfl
    | cons en rest =>
      rw [ai_ex_succ]
      unfold af_step
      dsimp only
      rw [af_disp_eq]
      cases ai_simp (T M) L en G x.1 x.2.1 x.2.2.1 x.2.2.2.1 x.2.2.2.2 with
      | some y => rfl
      | none =>
        dsimp only
        rw [af_rdm_eq]
        cases ai_rdm en G x.1 x.2.1 x.2.2.1 x.2.2.2.1 x.2.2.2.2 with
        | some y => rfl
        | none => exact af_ctl_eq _ _ _ _ _ _ _ _ _ _ _ _

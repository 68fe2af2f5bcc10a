section ASI
variable {p : Program} {l : Launch} {e : Env} {R : Room} {s : State} {m : MethodId} {args : Array Value} {below : List Frame} {meth : Method} {c : Code} {H : Heap} {locs : List Loc} {cs ss : Nat} {Q : State → Prop} {ρ : Nat → Int} {sb L : Nat} {xs : Nat → Int32} {D : va_G} {A : Nat → Prop} {md : ai_MD}
/-- every state behind that is as it is held goes on -/
def ai_K (p : Program) (l : Launch) (e : Env) (R : Room) (s : State) (m : MethodId) (args : Array Value) (below : List Frame) (meth : Method) (c : Code) (Q : State → Prop) (ρ : Nat → Int) (sb : Nat) (D : va_G) (A : Nat → Prop) (nL : Nat) (ad : List Nat) (pc : Nat) (x : ai_S) : Prop :=
  ∀ (ls : Array Slot) (stk : List Value) (H : Heap) (locs : List Loc) (ws : va_W) (tys : List (ClassId × FieldType)) (y : List Nat), ws.map Prod.fst = ad ++ y → ai_lv ρ sb (ws.map Prod.fst) x.1 nL ls → ai_F2 (ai_mt ρ sb (ws.map Prod.fst)) x.2.1 stk → ai_mem ρ sb D A s H locs x.2.2.1 ws tys → W p l e R s m args below meth c H locs x.2.2.2.1 x.2.2.2.2 Q (F0 m pc ls stk)
theorem ai_cat_f {ad : List Nat} {i : Nat} (a : Nat × ai_V) (q : Nat × Value) (h : a.1 = q.1 ∧ ai_mt ρ sb ad a.2 q.2) : (!(a.1 == i) && !(a.1 + 1 == i && ai_cat a.2 == 2)) = (!(q.1 == i) && !(q.1 + 1 == i && q.2.category == 2)) := by
  rw [h.1, h.2.cat]
theorem ai_cat_f2 {ad : List Nat} {i : Nat} (a : Nat × ai_V) (q : Nat × Value) (h : a.1 = q.1 ∧ ai_mt ρ sb ad a.2 q.2) : (!(a.1 == i) && (!(a.1 == i + 1) && !(a.1 + 1 == i && ai_cat a.2 == 2))) = (!(q.1 == i) && (!(q.1 == i + 1) && !(q.1 + 1 == i && q.2.category == 2))) := by
  rw [h.1, h.2.cat]
theorem ai_nz {G : ai_G} {b : ai_V} {y : Int32} (hB : (ai_b G b).1 ≤ y.toInt ∧ y.toInt ≤ (ai_b G b).2) (h : (decide (0 < (ai_b G b).1) || decide ((ai_b G b).2 < 0)) = true) : ¬ y = 0 := by
  simp only [Bool.or_eq_true, decide_eq_true_eq] at h
  intro e
  subst e
  have : (0 : Int32).toInt = 0 := rfl
  omega
theorem ai_nzl {G : ai_G} {b : ai_V} {y : Int64} (hB : (ai_b G b).1 ≤ y.toInt ∧ y.toInt ≤ (ai_b G b).2) (h : (decide (0 < (ai_b G b).1) || decide ((ai_b G b).2 < 0)) = true) : ¬ y = 0 := by
  simp only [Bool.or_eq_true, decide_eq_true_eq] at h
  intro e
  subst e
  have : (0 : Int64).toInt = 0 := rfl
  omega
theorem ai_bif_ok {α : Type} {b : Bool} {x : Option α} {y : α} (h : (bif b then x else none) = some y) : b = true ∧ x = some y := by
  cases b with
  | true => exact ⟨rfl, h⟩
  | false => cases h
variable {ls : Array Slot} {stk : List Value} {ws : va_W} {tys : List (ClassId × FieldType)} {G : ai_G} {als : ai_L} {st : List ai_V} {aw : ai_W} {pc : Nat} {x : ai_S} {cc : ByteArray}
/-- two ints -/
theorem ai_b2_ok {ins : Instr} (hx : p.tables.exec = Jvm.exec) (hb : c.code = cc) (hrb : ai_rb ρ) (hG : ai_gok ρ G) (hls : ai_lv ρ sb (ws.map Prod.fst) als md.2.2.2.1 ls) (hst : ai_F2 (ai_mt ρ sb (ws.map Prod.fst)) st stk) (hm : ai_mem ρ sb D A s H locs aw ws tys) (h : ai_b2 ins G als st aw cs ss = some x) (hd : decode cc pc = .ok (ins, 1)) (K : ai_K p l e R s m args below meth c Q ρ sb D A md.2.2.2.1 (ws.map Prod.fst) (pc + 1) x) : W p l e R s m args below meth c H locs cs ss Q (F0 m pc ls stk) := by
  unfold ai_b2 at h
  obtain ⟨vb, va, r, rfl, h⟩ := ai_p2_ok h
  obtain ⟨hi, h⟩ := ai_gd_ok h
  simp only [Bool.and_eq_true] at hi
  obtain ⟨v, hv, h⟩ := ai_bd_ok h
  cases h
  obtain ⟨ub, stk1, rfl, mb, hst1⟩ := hst.cons
  obtain ⟨ua, stk2, rfl, ma, hst2⟩ := hst1.cons
  obtain ⟨y, rfl, hB, hnB⟩ := ai_int' hG mb hi.2
  obtain ⟨z, rfl, hA, hnA⟩ := ai_int' hG ma hi.1
  have go : ∀ u : Int32, ai_mt ρ sb (ws.map Prod.fst) v (.int u) → W p l e R s m args below meth c H locs cs ss Q (F0 m (pc + 1) ls (.int u :: stk2)) := fun u hu => K ls _ H locs ws tys [] (List.append_nil _).symm hls ⟨hu, hst2⟩ hm
  have shf : ∀ {u : Nat}, (bif va.1 == 2 && (vb.1 == 0 && decide (vb.2.2.1 = vb.2.2.2)) then ai_bt va.2.1 vb.2.2.1 else none) = some u → ((z >>> (y &&& 31)) &&& 255).toInt = ρ u ∧ (((z.toUInt32 >>> (y.toUInt32 &&& Int32.toUInt32 31)).toInt32) &&& 255).toInt = ρ u := by
    intro u hu
    obtain ⟨h1, h2⟩ := ai_bif_ok hu
    simp only [Bool.and_eq_true, beq_iff_eq, decide_eq_true_eq] at h1
    obtain ⟨g1, g2, g3⟩ := h1
    obtain ⟨h3, h4⟩ := ai_bif_ok h2
    cases h4
    simp only [Bool.and_eq_true, Bool.or_eq_true, decide_eq_true_eq] at h3
    obtain ⟨n1, t1, l1, u1⟩ := va
    obtain ⟨n2, t2, l2, u2⟩ := vb
    dsimp only at g1 g2 g3 h3
    subst g1; subst g2; subst g3
    have ez : z.toInt = ρ t1 := hnA rfl
    have ey : y.toInt = l2 := by
      have q1 : l2 ≤ y.toInt := hB.1
      have q2 : y.toInt ≤ l2 := hB.2
      omega
    exact hrb t1 l2.toNat _ z y h3.1 ez (by omega) (by omega) rfl
  unfold ai_i2 at hv
  split at hv
  · cases hv
    exact lv_iadd hx hb hd (go _ (ai_mI_ok (z := z.toInt + y.toInt) (Int32.toInt_add z y) (by omega) (by omega)))
  · cases hv
    exact lv_isub hx hb hd (go _ (ai_mI_ok (z := z.toInt - y.toInt) (Int32.toInt_sub z y) (by omega) (by omega)))
  · cases hv
    have q := ai_mulB_ok hA hB
    exact lv_imul hx hb hd (go _ (ai_mI_ok (z := z.toInt * y.toInt) (Int32.toInt_mul z y) q.1 q.2))
  · refine lv_iand hx hb hd (go _ ?_)
    cases hc : (va.1 == 6 && (vb.1 == 0 && (decide (vb.2.2.1 = 255) && decide (vb.2.2.2 = 255)))) with
    | true =>
      rw [hc] at hv
      cases hv
      simp only [Bool.and_eq_true, beq_iff_eq, decide_eq_true_eq] at hc
      obtain ⟨n1, t1, l1, u1⟩ := va
      obtain ⟨n2, t2, l2, u2⟩ := vb
      obtain ⟨g1, g2, g3, g4⟩ := hc
      dsimp only at g1 g2 g3 g4
      subst g1; subst g2; subst g3; subst g4
      obtain ⟨z', e1, e2⟩ := ma
      cases e1
      have ey : y = 255 := Int32.toInt_inj.mp (by
        have q1 : 255 ≤ y.toInt := hB.1
        have q2 : y.toInt ≤ 255 := hB.2
        have : (255 : Int32).toInt = 255 := rfl
        omega)
      subst ey
      exact ⟨_, rfl, e2⟩
    | false =>
      rw [hc] at hv
      cases hv
      exact ai_l2_ok (f := fun x y => x &&& y) hA hB (ai_andB_ok hA hB)
  · cases hv
    exact lv_ior hx hb hd (go _ (ai_l2_ok (f := fun x y => x ||| y) hA hB (ai_full_ok _)))
  · cases hv
    exact lv_ixor hx hb hd (go _ (ai_l2_ok (f := fun x y => x ^^^ y) hA hB (ai_full_ok _)))
  · cases hv
    exact lv_ishl hx hb hd (go _ (ai_l2_ok (f := fun x y => x <<< (y &&& 31)) hA hB (ai_full_ok _)))
  · refine lv_ishr hx hb hd (go _ ?_)
    split at hv
    · cases hv
      exact ⟨_, rfl, (shf (by assumption)).1⟩
    · cases hv
      exact ai_l2_ok (f := fun x y => x >>> (y &&& 31)) hA hB (ai_full_ok _)
  · refine lv_iushr hx hb hd rfl (go _ ?_)
    split at hv
    · cases hv
      exact ⟨_, rfl, (shf (by assumption)).2⟩
    · cases hv
      exact ai_l2_ok (f := fun x y => (x.toUInt32 >>> (y.toUInt32 &&& Int32.toUInt32 31)).toInt32) hA hB (ai_full_ok _)
  · obtain ⟨h1, h2⟩ := ai_bif_ok hv
    cases h2
    exact lv_idiv hx hb hd (ai_nz hB h1) (go _ (ai_l2_ok (f := fun x y => x / y) hA hB (ai_full_ok _)))
  · obtain ⟨h1, h2⟩ := ai_bif_ok hv
    cases h2
    exact lv_irem hx hb hd (ai_nz hB h1) (go _ (ai_l2_ok (f := fun x y => x - x / y * y) hA hB (ai_full_ok _)))
  · cases hv
/-- two longs -/
theorem ai_bl_ok {ins : Instr} (hx : p.tables.exec = Jvm.exec) (hb : c.code = cc) (hG : ai_gok ρ G) (hls : ai_lv ρ sb (ws.map Prod.fst) als md.2.2.2.1 ls) (hst : ai_F2 (ai_mt ρ sb (ws.map Prod.fst)) st stk) (hm : ai_mem ρ sb D A s H locs aw ws tys) (h : ai_bl ins G als st aw cs ss = some x) (hd : decode cc pc = .ok (ins, 1)) (K : ai_K p l e R s m args below meth c Q ρ sb D A md.2.2.2.1 (ws.map Prod.fst) (pc + 1) x) : W p l e R s m args below meth c H locs cs ss Q (F0 m pc ls stk) := by
  unfold ai_bl at h
  obtain ⟨vb, va, r, rfl, h⟩ := ai_p2_ok h
  obtain ⟨hi, h⟩ := ai_gd_ok h
  simp only [Bool.and_eq_true] at hi
  obtain ⟨v, hv, h⟩ := ai_bd_ok h
  cases h
  obtain ⟨ub, stk1, rfl, mb, hst1⟩ := hst.cons
  obtain ⟨ua, stk2, rfl, ma, hst2⟩ := hst1.cons
  obtain ⟨y, rfl, hB, hnB⟩ := ai_lng' hG mb hi.2
  obtain ⟨z, rfl, hA, hnA⟩ := ai_lng' hG ma hi.1
  have go : ∀ u : Int64, ai_mt ρ sb (ws.map Prod.fst) v (.long u) → W p l e R s m args below meth c H locs cs ss Q (F0 m (pc + 1) ls (.long u :: stk2)) := fun u hu => K ls _ H locs ws tys [] (List.append_nil _).symm hls ⟨hu, hst2⟩ hm
  unfold ai_l2l at hv
  split at hv
  · cases hv
    exact lv_ladd hx hb hd (go _ (ai_mL_ok (z := z.toInt + y.toInt) (Int64.toInt_add z y) (by omega) (by omega)))
  · cases hv
    exact lv_lsub hx hb hd (go _ (ai_mL_ok (z := z.toInt - y.toInt) (Int64.toInt_sub z y) (by omega) (by omega)))
  · cases hv
    have q := ai_mulB_ok hA hB
    exact lv_lmul hx hb hd (go _ (ai_mL_ok (z := z.toInt * y.toInt) (Int64.toInt_mul z y) q.1 q.2))
  · obtain ⟨h1, h2⟩ := ai_bif_ok hv
    cases h2
    exact lv_ldiv hx hb hd (ai_nzl hB h1) (go _ (ai_ll2_ok (f := fun x y => x / y) hA hB))
  · obtain ⟨h1, h2⟩ := ai_bif_ok hv
    cases h2
    exact lv_lrem hx hb hd (ai_nzl hB h1) (go _ (ai_ll2_ok (f := fun x y => x - x / y * y) hA hB))
  · cases hv
/-- a local is read -/
theorem ai_load_ok {i : Nat} {ok : ai_V → Bool} (hls : ai_lv ρ sb (ws.map Prod.fst) als md.2.2.2.1 ls) (h : ai_load als st aw cs ss i ok = some x) : ∃ v u, x = (als, v :: st, aw, cs, ss) ∧ ok v = true ∧ ls[i]? = some (.val u) ∧ ai_mt ρ sb (ws.map Prod.fst) v u := by
  unfold ai_load at h
  obtain ⟨v, hv, h⟩ := ai_bd_ok h
  obtain ⟨ho, h⟩ := ai_gd_ok h
  cases h
  obtain ⟨lv, h1, h2⟩ := hls
  obtain ⟨k, u, h3, h4⟩ := ai_lk_ok hv h2
  exact ⟨v, u, rfl, ho, lv_at h1 k h3, h4⟩
end ASI

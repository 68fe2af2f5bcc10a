/-! ===== it is as the machine goes: words ===== -/
abbrev hs_tb (K : Nat) : List Jvm.Cond := Jvm.Cond.code (ai_T K).2.1 (ai_T K).2.2.1 (ai_T K).2.2.2.1 (ai_T K).2.2.2.2.1 :: ai_tb
def hs_Qc (sb : ai_SB) (sh : List (Nat × Nat)) (D : va_G) (ws : va_W) (post : hs_Q) (A : Nat → Prop) : Array Value → State → Outcome → State → Prop := fun _ st oc t => (∃ (ro : List hs_V) (S1 : hs_S) (rv : Option Value) (ws1 : va_W) (tys1 : List (ClassId × FieldType)), oc = .returned rv ∧ ws1.map Prod.fst = ws.map Prod.fst ∧ ai_F2 (hs_vm (ws1.map Prod.fst)) ro rv.toList ∧ va_P D vwCl ws1 t.heap ∧ va_D A ws1 ∧ va_K D vwCl tys1 t ∧ hs_ok sb.2 sh tys1 S1 ws1 ∧ post ro S1) ∧ va_F A st t
/-- what a method of the reference does, in whole numbers -/
def hs_C (sh : List (Nat × Nat)) (K : Nat) (t : hs_T) : Prop := ∀ (sb : ai_SB) (l : Launch) (D : va_G) (ws : va_W) (tys : List (ClassId × FieldType)) (vs : List Value) (sz : Nat) (as : List hs_V) (S : hs_S) (post : hs_Q), t as S post → ai_F2 (hs_vm (ws.map Prod.fst)) as vs → hs_ok sb.2 sh tys S ws → Met l (ai_T K).2.1 (hs_tb K) (ai_T K).2.2.2.2.2.2.1 (ai_Pc D ws tys vs sz) (hs_Qc sb sh D ws post (va_A ws sz)) 0 0 (va_A ws sz)
theorem hs_oI_ok {o : Option hs_V} {k : Int → Prop} (h : hs_oI o k) : ∃ z, o = some (0, z) ∧ k z := by
  unfold hs_oI at h
  split at h
  · exact ⟨_, rfl, h⟩
  · cases h
theorem hs_oL_ok {o : Option hs_V} {k : Int → Prop} (h : hs_oL o k) : ∃ z, o = some (1, z) ∧ k z := by
  unfold hs_oL at h
  split at h
  · exact ⟨_, rfl, h⟩
  · cases h
theorem hs_oR_ok {o : Option hs_V} {k : Int → Prop} (h : hs_oR o k) : ∃ z, o = some (4, z) ∧ k z := by
  unfold hs_oR at h
  split at h
  · exact ⟨_, rfl, h⟩
  · cases h
theorem hs_sI_ok {st : List hs_V} {k : Int → List hs_V → Prop} (h : hs_sI st k) : ∃ z r, st = (0, z) :: r ∧ k z r := by
  unfold hs_sI at h
  split at h
  · exact ⟨_, _, rfl, h⟩
  · cases h
theorem hs_sL_ok {st : List hs_V} {k : Int → List hs_V → Prop} (h : hs_sL st k) : ∃ z r, st = (1, z) :: r ∧ k z r := by
  unfold hs_sL at h
  split at h
  · exact ⟨_, _, rfl, h⟩
  · cases h
theorem hs_sR_ok {st : List hs_V} {k : Nat → List hs_V → Prop} (h : hs_sR st k) : ∃ z r, st = (4, z) :: r ∧ k z.toNat r := by
  unfold hs_sR at h
  split at h
  · exact ⟨_, _, rfl, h⟩
  · cases h
theorem hs_if_ok {b : Bool} {k : Prop} (h : hs_if b k) : b = true ∧ k := by
  unfold hs_if at h
  split at h
  · exact ⟨rfl, h⟩
  · cases h
theorem hs_lit_ok {lo hi z : Int} {k : Prop} (h : hs_lit lo hi z k) : (lo ≤ z ∧ z ≤ hi) ∧ k := by
  obtain ⟨h1, h2⟩ := hs_if_ok h
  rw [Bool.and_eq_true, Int.ble'_eq_true, Int.ble'_eq_true] at h1
  exact ⟨h1, h2⟩
theorem hs_n32_ok {b : Bool} {x : Int} {k : Int → Prop} {y : Int32} (h : hs_n32 b x k) (hy : y.toInt = x.bmod 4294967296) : k y.toInt := by
  unfold hs_n32 at h
  split at h
  · exact h _ (ai_i32 y).1 (ai_i32 y).2
  · obtain ⟨h1, h2⟩ := h
    rw [hy, ai_bm32 h1.1 h1.2]
    exact h2
theorem hs_w64_ok {x : Int} {k : Int → Prop} {y : Int64} (h : hs_w64 x k) (hy : y.toInt = x.bmod 18446744073709551616) : k y.toInt := h _ (fun h1 h2 => by rw [hy, ai_bm64 h1 h2])
theorem hs_gf_ok {S : hs_S} {nb : Nat} {k : hs_V → Prop} : ∀ {fk : Option (Nat × Int)}, hs_gf fk S nb k → ∃ f, fk = some f ∧ k (hs_fv f (S.1 nb))
  | some (0, _), h => ⟨_, rfl, h⟩
  | some (1, _), h => ⟨_, rfl, h⟩
  | some (2, _), h => ⟨_, rfl, h⟩
  | some (_ + 3, _), h => ⟨_, rfl, h⟩
  | none, h => h.elim
theorem hs_lk_ok {ad : List Nat} {i : Nat} {v : hs_V} : ∀ {lv : hs_L} {l : List (Nat × Value)}, hs_lk lv i = some v → ai_F2 (fun (a : Nat × hs_V) (q : Nat × Value) => a.1 = q.1 ∧ hs_vm ad a.2 q.2) lv l → ∃ (k : Nat) (u : Value), l[k]? = some (i, u) ∧ hs_vm ad v u
  | [], _, h, _ => by cases h
  | (k, w) :: r, l, h, hF => by
    obtain ⟨q, l', rfl, h1, h2⟩ := hF.cons
    unfold hs_lk at h
    cases hk : (k == i) with
    | true =>
      rw [hk] at h
      cases h
      have e : k = i := by simpa using hk
      obtain ⟨q1, q2⟩ := q
      have e2 : k = q1 := h1.1
      subst e2
      subst e
      exact ⟨0, q2, rfl, h1.2⟩
    | false =>
      rw [hk] at h
      obtain ⟨k', u, g1, g2⟩ := hs_lk_ok h h2
      exact ⟨k' + 1, u, by simpa using g1, g2⟩
theorem hs_at_ls {ad : List Nat} {lv : hs_L} {nL i : Nat} {ls : Array Slot} {v : hs_V} (h : hs_lv ad lv nL ls) (hk : hs_lk lv i = some v) : ∃ u, ls[i]? = some (.val u) ∧ hs_vm ad v u := by
  obtain ⟨l, h1, h2⟩ := h
  obtain ⟨k, u, g1, g2⟩ := hs_lk_ok hk h2
  exact ⟨u, h1.2.2 (i, u) (List.mem_of_getElem? g1), g2⟩
/-- fewer locals are told -/
def hs_le : hs_L → hs_L → Prop
  | [], _ => True
  | (k, v) :: r, lv => hs_lk lv k = some v ∧ hs_le r lv
theorem hs_lv.le {ad : List Nat} {lv : hs_L} {nL : Nat} {ls : Array Slot} (h : hs_lv ad lv nL ls) : ∀ {g : hs_L}, hs_le g lv → hs_lv ad g nL ls
  | [], _ => by
    obtain ⟨l, h1, -⟩ := h
    exact ⟨[], ⟨h1.1, h1.2.1, fun q hq => by cases hq⟩, trivial⟩
  | (k, v) :: r, hg => by
    obtain ⟨l', g1, g2⟩ := h.le hg.2
    obtain ⟨u, k1, k2⟩ := hs_at_ls h hg.1
    refine ⟨(k, u) :: l', ⟨g1.1, g1.2.1, fun q hq => ?_⟩, ⟨rfl, k2⟩, g2⟩
    rcases List.mem_cons.mp hq with rfl | hq
    · exact k1
    · exact g1.2.2 q hq
theorem hs_cat_f {ad : List Nat} {i : Nat} (a : Nat × hs_V) (q : Nat × Value) (h : a.1 = q.1 ∧ hs_vm ad a.2 q.2) : (!(a.1 == i) && !(a.1 + 1 == i && hs_cat a.2 == 2)) = (!(q.1 == i) && !(q.1 + 1 == i && q.2.category == 2)) := by rw [h.1, h.2.cat]; rfl
theorem hs_cat_f2 {ad : List Nat} {i : Nat} (a : Nat × hs_V) (q : Nat × Value) (h : a.1 = q.1 ∧ hs_vm ad a.2 q.2) : (!(a.1 == i) && (!(a.1 == i + 1) && !(a.1 + 1 == i && hs_cat a.2 == 2))) = (!(q.1 == i) && (!(q.1 == i + 1) && !(q.1 + 1 == i && q.2.category == 2))) := by rw [h.1, h.2.cat]; rfl
theorem hs_up_eq {f : Nat → Int} {i : Nat} {v : Int} : hs_up f i v i = v := by unfold hs_up; rw [beq_self_eq_true]; rfl
theorem hs_up_ne {f : Nat → Int} {i j : Nat} {v : Int} (h : ¬ j = i) : hs_up f i v j = f j := by unfold hs_up; rw [beq_false_of_ne h]; rfl
theorem hs_ua_ne {A : Nat → Nat → Int} {k i a : Nat} {v : Int} (h : ¬ a = k) : hs_ua A k i v a = A a := by unfold hs_ua; rw [beq_false_of_ne h]; rfl
theorem hs_ua_k {A : Nat → Nat → Int} {k i j : Nat} {v : Int} : hs_ua A k i v k j = if j = i then v else A k j := by
  unfold hs_ua
  rw [beq_self_eq_true, cond_true]
  by_cases h : j = i
  · subst h; rw [beq_self_eq_true, if_pos rfl]; rfl
  · rw [beq_false_of_ne h, if_neg h]; rfl
theorem hs_ok.arr {ex : Nat → va_E} {sh : List (Nat × Nat)} {tys : List (ClassId × FieldType)} {S : hs_S} {ws : va_W} {k a i : Nat} {v : Int} {e0 e1 : va_E} {c : Nat × Nat} (h : hs_ok ex sh tys S ws) (hk : 0 < k) (hc : sh[k]? = some c) (hw : ws[k]? = some (a, e0)) (he : hs_ar ex tys (S.1, hs_ua S.2 k i v) k c e1) : hs_ok ex sh tys (S.1, hs_ua S.2 k i v) (ws.set k (a, e1)) := by
  obtain ⟨h1, ⟨a0, f0, h2, h3⟩, h4⟩ := h
  have hf := ai_fst_set (e1 := e1) hw
  have hl := (List.getElem?_eq_some_iff.mp hw).1
  refine ⟨by rw [List.length_set]; exact h1, ⟨a0, f0, by rw [List.getElem?_set_ne (by omega)]; exact h2, by rw [hf]; exact h3⟩, fun k' c' hk' hc' => ?_⟩
  by_cases ek : k = k'
  · subst ek
    rw [hc] at hc'
    cases hc'
    exact ⟨a, e1, List.getElem?_set_self hl, he⟩
  · obtain ⟨a', e', g1, g2⟩ := h4 k' c' hk' hc'
    refine ⟨a', e', by rw [List.getElem?_set_ne ek]; exact g1, ?_⟩
    have e9 : hs_ua S.2 k i v k' = S.2 k' := hs_ua_ne (fun h => ek h.symm)
    obtain ⟨n, m⟩ := c'
    match n, g2 with
    | 0, g2 => obtain ⟨cA, f, t0, q1, q2, q3⟩ := g2; exact ⟨cA, f, t0, q1, q2, fun j hj => by show _ = hs_ua S.2 k i v k' j; rw [e9]; exact q3 j hj⟩
    | 1, g2 => obtain ⟨cA, f, t0, q1, q2, q3⟩ := g2; exact ⟨cA, f, t0, q1, q2, fun j hj => by show _ = hs_ua S.2 k i v k' j; rw [e9]; exact q3 j hj⟩
    | 2, g2 => obtain ⟨cA, f, t0, q1, q2, q3⟩ := g2; exact ⟨cA, f, t0, q1, q2, fun j hj => by show _ = hs_ua S.2 k i v k' j; rw [e9]; exact q3 j hj⟩
    | 9, g2 => exact g2
theorem hs_ok.fld {ex : Nat → va_E} {sh : List (Nat × Nat)} {tys : List (ClassId × FieldType)} {S : hs_S} {ws : va_W} {a nb : Nat} {fk : Nat × Int} {v : Int} {u : Value} {vs : List Value} (h : hs_ok ex sh tys S ws) (hw : ws[0]? = some (a, .inr (10, vs))) (hfk : hs_fk[nb]? = some fk) (hu : hs_vm (ws.map Prod.fst) (hs_fv fk v) u) (hbl : fk.1 = 2 → v = 0 ∨ v = 1) : hs_ok ex sh tys (hs_up S.1 nb v, S.2) (ws.set 0 (a, .inr (10, vs.set nb u))) := by
  obtain ⟨h1, ⟨a0, f0, h2, vs0, h3, h4, h5⟩, h6⟩ := h
  rw [hw] at h2
  cases h2
  cases h3
  have hf := ai_fst_set (e1 := .inr (10, vs.set nb u)) hw
  have hl := (List.getElem?_eq_some_iff.mp hw).1
  have hnb : nb < 62 := (List.getElem?_eq_some_iff.mp hfk).1
  refine ⟨by rw [List.length_set]; exact h1, ⟨a, _, List.getElem?_set_self hl, vs.set nb u, rfl, by rw [List.length_set]; exact h4, fun j f hj => ?_⟩, fun k' c' hk' hc' => ?_⟩
  · rw [hf]
    by_cases ej : nb = j
    · subst ej
      rw [hfk] at hj
      cases hj
      refine ⟨u, List.getElem?_set_self (by rw [h4]; exact hnb), ?_⟩
      show hs_vm _ (hs_fv fk (hs_up S.1 nb v nb)) u ∧ (fk.1 = 2 → hs_up S.1 nb v nb = 0 ∨ hs_up S.1 nb v nb = 1)
      rw [hs_up_eq]
      exact ⟨hu, hbl⟩
    · obtain ⟨u', q1, q2⟩ := h5 j f hj
      refine ⟨u', by rw [List.getElem?_set_ne ej]; exact q1, ?_⟩
      show hs_vm _ (hs_fv f (hs_up S.1 nb v j)) u' ∧ (f.1 = 2 → hs_up S.1 nb v j = 0 ∨ hs_up S.1 nb v j = 1)
      rw [hs_up_ne (fun h => ej h.symm)]
      exact q2
  · obtain ⟨a', e', g1, g2⟩ := h6 k' c' hk' hc'
    refine ⟨a', e', by rw [List.getElem?_set_ne (by omega)]; exact g1, ?_⟩
    obtain ⟨n, m⟩ := c'
    match n, g2 with
    | 0, g2 => exact g2
    | 1, g2 => exact g2
    | 2, g2 => exact g2
    | 9, g2 => exact g2
def hs_tyc (j : Nat) : Bool := match hs_fk[j]?, ai_ty 10 j with
  | some (0, _), .int => true
  | some (1, _), .long => true
  | some (2, _), .boolean => true
  | some (4, _), .array _ => true
  | none, _ => true
  | _, _ => false
theorem hs_tyc_ok : (List.range 62).all hs_tyc = true := by decide +kernel
theorem hs_ty {nb : Nat} (h : nb < 62) : hs_tyc nb = true := List.all_eq_true.mp hs_tyc_ok nb (List.mem_range.mpr h)
def hs_finc (j : Nat) : Bool := match hs_fk[j]?, (TX10 j).2.2.2 with
  | some (0, _), true => false
  | some (1, _), true => false
  | some (2, _), true => false
  | _, _ => true
theorem hs_finc_ok : (List.range 62).all hs_finc = true := by decide +kernel
theorem hs_fin {nb : Nat} (h : nb < 62) : hs_finc nb = true := List.all_eq_true.mp hs_finc_ok nb (List.mem_range.mpr h)
theorem hs_cmpL {x y : Int64} (h : x.toInt < y.toInt) : (lg_cmp x y).toInt = -1 := by
  have h2 : ¬ x > y := fun g => by have := Int64.lt_iff_toInt_lt.mp g; omega
  have h3 : ¬ x = y := fun g => by subst g; omega
  unfold lg_cmp
  rw [if_neg h2, if_neg h3]
  rfl
theorem hs_cmpE {x y : Int64} (h : x.toInt = y.toInt) : (lg_cmp x y).toInt = 0 := by
  have h1 : x = y := Int64.toInt_inj.mp h
  have h2 : ¬ x > y := fun g => by have := Int64.lt_iff_toInt_lt.mp g; omega
  unfold lg_cmp
  rw [if_neg h2, if_pos h1]
  rfl
theorem hs_cmpG {x y : Int64} (h : y.toInt < x.toInt) : (lg_cmp x y).toInt = 1 := by
  have h1 : x > y := Int64.lt_iff_toInt_lt.mpr h
  unfold lg_cmp
  rw [if_pos h1]
  rfl
/-- every state of the machine that is said so goes on -/
def hs_K (p : Program) (l : Launch) (e : Env) (R : Room) (s : State) (m : MethodId) (args : Array Value) (below : List Frame) (meth : Method) (c : Code) (Q : State → Prop) (D : va_G) (A : Nat → Prop) (nL : Nat) (sb : ai_SB) (sh : List (Nat × Nat)) (ad : List Nat) (pc : Nat) (lv : hs_L) (st : List hs_V) (S : hs_S) : Prop := ∀ (ls : Array Slot) (stk : List Value) (H : Heap) (locs : List Loc) (ws : va_W) (tys : List (ClassId × FieldType)), ws.map Prod.fst = ad → hs_lv ad lv nL ls → ai_F2 (hs_vm ad) st stk → va_P D vwCl ws H → va_D A ws → va_K D vwCl tys s → va_S A s.heap H locs → hs_ok sb.2 sh tys S ws → W p l e R s m args below meth c H locs 0 0 Q (F0 m pc ls stk)
def hs_rv (md : ai_MD) (pc : Nat) (ro : List hs_V) : Prop := (decode md.2.2.1 pc = .ok (.ireturn, 1) ∧ ∃ z, ro = [(0, z)] ∧ (md.2.2.2.2.1 = some .int ∨ (md.2.2.2.2.1 = some .boolean ∧ (z = 0 ∨ z = 1)))) ∨ (decode md.2.2.1 pc = .ok (.lreturn, 1) ∧ ∃ z, ro = [(1, z)] ∧ md.2.2.2.2.1 = some .long) ∨ (decode md.2.2.1 pc = .ok (.return_, 1) ∧ ro = [] ∧ md.2.2.2.2.1 = none)
theorem hs_lt {a b : Nat} (g : Nat.blt a b = true) : a < b := Nat.le_of_ble_eq_true g
theorem hs_int8 {z : Int} (h1 : -128 ≤ z) (h2 : z ≤ 127) : (Int8.ofInt z).toInt32.toInt = z := by
  rw [Int8.toInt_toInt32]
  exact Int8.toInt_ofInt_of_le (by omega) (by omega)
theorem hs_int16 {z : Int} (h1 : -32768 ≤ z) (h2 : z ≤ 32767) : (Int16.ofInt z).toInt32.toInt = z := by
  rw [Int16.toInt_toInt32]
  exact Int16.toInt_ofInt_of_le (by omega) (by omega)
theorem hs_int32 {z : Int} (h1 : -2147483648 ≤ z) (h2 : z ≤ 2147483647) : (Int32.ofInt z).toInt = z := Int32.toInt_ofInt_of_le (by omega) (by omega)
theorem hs_int64 {z : Int} (h1 : -9223372036854775808 ≤ z) (h2 : z ≤ 9223372036854775807) : (Int64.ofInt z).toInt = z := Int64.toInt_ofInt_of_le (by omega) (by omega)
section HSC
variable {p : Program} {l : Launch} {e : Env} {R : Room} {s : State} {m : MethodId} {args : Array Value} {below : List Frame} {meth : Method} {c : Code} {Q : State → Prop} {D : va_G} {A : Nat → Prop} {nL : Nat} {sb : ai_SB} {sh : List (Nat × Nat)} {ad : List Nat} {xs : Nat → Int32} {M : Nat} {pc : Nat} {lv : hs_L} {rA : List hs_V} {S : hs_S}
/-- behind a call -/
theorem hs_call_ok {ws : va_W} {tys : List (ClassId × FieldType)} {H : Heap} {locs : List Loc} {ls : Array Slot} {st0 rest : List Value} {post : hs_Q} {a : Array Value} (hA : ∀ q, s.heap.size ≤ q → A q) (ha : ws.map Prod.fst = ad) (hP : va_P D vwCl ws H) (hD : va_D A ws) (hKk : va_K D vwCl tys s) (hS : va_S A s.heap H locs) (hls : hs_lv ad lv nL ls) (hst : ai_F2 (hs_vm ad) rA rest) (hr : va_Run p l e R s m args below meth c H locs 0 0 0 0 (F0 m pc ls st0) rest (hs_Qc sb sh D ws post (va_A ws H.size) a) (va_A ws H.size)) (hK : ∀ ro S1, post ro S1 → hs_K p l e R s m args below meth c Q D A nL sb sh ad (pc + 3) lv (ro ++ rA) S1) : W p l e R s m args below meth c H locs 0 0 Q (F0 m pc ls st0) := by
  have hAA : ∀ q, va_A ws H.size q → A q := by
    intro q hq
    rcases hq with ⟨k, e9, hk⟩ | hq
    · exact hD.2 k _ hk
    · exact hA q (Nat.le_trans hS.1 hq)
  refine ai_run hr (fun v st t H1 Lc h0 h1 hv hq hL => ?_)
  obtain ⟨⟨ro, S1, rv, ws1, tys1, e1, e2, e3, e4, e5, e6, e7, e8⟩, hz, hk⟩ := hq
  cases e1
  rw [h0] at hz hk
  rw [h1] at hz hk e4
  have e2' : ws1.map Prod.fst = ad := e2.trans ha
  rw [e2'] at e3
  refine hK ro S1 e8 ls (v.toList ++ rest) H1 (locs ++ Lc) ws1 tys1 e2' hls (ai_F2.app e3 hst) e4 (e5.weaken (fun _ _ _ h => hAA _ h)) (va_K.moved hv.symm e6) ⟨Nat.le_trans hS.1 hz, fun q g1 g2 => ?_, fun q g => ?_⟩ e7
  · rw [hk q (Nat.lt_of_lt_of_le g1 hS.1) (fun z => g2 (hAA q z))]
    exact hS.2.1 q g1 g2
  · rcases List.mem_append.mp g with g | g
    · exact hS.2.2 q g
    · exact hAA _ (hL q g)
end HSC

/-! ===== it is as the machine goes: words, for the class ===== -/
def hc_Qc (sb : ai_SB) (sh : List (Nat × Nat)) (D : va_G) (ws : va_W) (post : hs_Q) (A : Nat → Prop) : Array Value → State → Outcome → State → Prop := fun _ st oc t => (∃ (ro : List hs_V) (S1 : hs_S) (rv : Option Value) (ws1 : va_W) (tys1 : List (ClassId × FieldType)), oc = .returned rv ∧ ws1.map Prod.fst = ws.map Prod.fst ∧ ai_F2 (hs_vm (ws1.map Prod.fst)) ro rv.toList ∧ va_P D vwCl ws1 t.heap ∧ va_D A ws1 ∧ va_K D vwCl tys1 t ∧ hc_ok sb.2 sh tys1 S1 ws1 ∧ post ro S1) ∧ va_F A st t
/-- what a method of the reference does, in whole numbers -/
def hc_C (sh : List (Nat × Nat)) (K : Nat) (t : hs_T) : Prop := ∀ (sb : ai_SB) (l : Launch) (D : va_G) (ws : va_W) (tys : List (ClassId × FieldType)) (vs : List Value) (sz : Nat) (as : List hs_V) (S : hs_S) (post : hs_Q), t as S post → ai_F2 (hs_vm (ws.map Prod.fst)) as vs → hc_ok sb.2 sh tys S ws → Met l (ai_T K).2.1 (hs_tb K) (ai_T K).2.2.2.2.2.2.1 (ai_Pc D ws tys vs sz) (hc_Qc sb sh D ws post (va_A ws sz)) 0 0 (va_A ws sz)
theorem hc_g_ok {k ci : Nat} {K : List (Nat × Int) → Prop} (h : hc_g k ci K) : ∃ fks, hc_ob k = some (ci, fks) ∧ K fks := by
  unfold hc_g at h
  split at h
  · rename_i q hq
    obtain ⟨h1, h2⟩ := hs_if_ok h
    rw [beq_iff_eq] at h1
    subst h1
    exact ⟨q.2, hq, h2⟩
  · exact h.elim
def hc_lnc (k : Nat) : Bool := match hc_ob k with
  | some q => Nat.ble q.2.length 64
  | none => true
theorem hc_lna : (List.range 72).all hc_lnc = true := by decide +kernel
theorem hc_72 {k : Nat} {q : Nat × List (Nat × Int)} (h : hc_ob k = some q) : k < 72 := by
  unfold hc_ob at h
  cases e : hc_obl[k]? with
  | none => rw [e] at h; cases h
  | some o => exact (List.getElem?_eq_some_iff.mp e).1
theorem hc_len {k : Nat} {q : Nat × List (Nat × Int)} (h : hc_ob k = some q) : q.2.length ≤ 64 := by
  have := List.all_eq_true.mp hc_lna k (List.mem_range.mpr (hc_72 h))
  unfold hc_lnc at this
  rw [h] at this
  exact Nat.le_of_ble_eq_true this
theorem hc_ok.arr {ex : Nat → va_E} {sh : List (Nat × Nat)} {tys : List (ClassId × FieldType)} {S : hs_S} {ws : va_W} {k a i : Nat} {v : Int} {e0 e1 : va_E} {c : Nat × Nat} (h : hc_ok ex sh tys S ws) (h7 : ¬ c.1 = 7) (hc : sh[k]? = some c) (hw : ws[k]? = some (a, e0)) (he : hs_ar ex tys (S.1, hs_ua S.2 k i v) k c e1) : hc_ok ex sh tys (S.1, hs_ua S.2 k i v) (ws.set k (a, e1)) := by
  obtain ⟨h1, h2, h4, hd⟩ := h
  have hf := ai_fst_set (e1 := e1) hw
  have hl := (List.getElem?_eq_some_iff.mp hw).1
  refine ⟨by rw [List.length_set]; exact h1, fun k' q hk' => ?_, fun k' c' hc' h7' => ?_, hd⟩
  · have ek : ¬ k = k' := fun e => by
      subst e
      rw [hd k c hc h7] at hk'
      cases hk'
    obtain ⟨a', vs, g1, g2, g3⟩ := h2 k' q hk'
    exact ⟨a', vs, by rw [List.getElem?_set_ne ek]; exact g1, g2, by rw [hf]; exact g3⟩
  · by_cases ek : k = k'
    · subst ek
      rw [hc] at hc'
      cases hc'
      exact ⟨a, e1, List.getElem?_set_self hl, he⟩
    · obtain ⟨a', e', g1, g2⟩ := h4 k' c' hc' h7'
      refine ⟨a', e', by rw [List.getElem?_set_ne ek]; exact g1, ?_⟩
      have e9 : hs_ua S.2 k i v k' = S.2 k' := hs_ua_ne (fun h => ek h.symm)
      obtain ⟨n, m⟩ := c'
      match n, g2 with
      | 0, g2 => obtain ⟨cA, f, t0, q1, q2, q3⟩ := g2; exact ⟨cA, f, t0, q1, q2, fun j hj => by show _ = hs_ua S.2 k i v k' j; rw [e9]; exact q3 j hj⟩
      | 1, g2 => obtain ⟨cA, f, t0, q1, q2, q3⟩ := g2; exact ⟨cA, f, t0, q1, q2, fun j hj => by show _ = hs_ua S.2 k i v k' j; rw [e9]; exact q3 j hj⟩
      | 2, g2 => obtain ⟨cA, f, t0, q1, q2, q3⟩ := g2; exact ⟨cA, f, t0, q1, q2, fun j hj => by show _ = hs_ua S.2 k i v k' j; rw [e9]; exact q3 j hj⟩
      | 9, g2 => exact g2
theorem hc_ok.fld {ex : Nat → va_E} {sh : List (Nat × Nat)} {tys : List (ClassId × FieldType)} {S : hs_S} {ws : va_W} {k a ci nb : Nat} {fks : List (Nat × Int)} {fk : Nat × Int} {v : Int} {u : Value} {vs : List Value} (h : hc_ok ex sh tys S ws) (hk : hc_ob k = some (ci, fks)) (hw : ws[k]? = some (a, .inr (ci, vs))) (hfk : fks[nb]? = some fk) (hu : hs_vm (ws.map Prod.fst) (hs_fv fk v) u) (hbl : fk.1 = 2 → v = 0 ∨ v = 1) : hc_ok ex sh tys (hs_up S.1 (64 * k + nb) v, S.2) (ws.set k (a, .inr (ci, vs.set nb u))) := by
  obtain ⟨h1, h2, h4, hd⟩ := h
  obtain ⟨a0, vs0, g1, g2, g3⟩ := h2 k _ hk
  rw [hw] at g1
  cases g1
  have hf := ai_fst_set (e1 := .inr (ci, vs.set nb u)) hw
  have hl := (List.getElem?_eq_some_iff.mp hw).1
  have hnb : nb < fks.length := (List.getElem?_eq_some_iff.mp hfk).1
  have hln : fks.length ≤ 64 := hc_len hk
  refine ⟨by rw [List.length_set]; exact h1, fun k' q hk' => ?_, fun k' c' hc' h7' => ?_, hd⟩
  · by_cases ek : k = k'
    · subst ek
      rw [hk] at hk'
      cases hk'
      refine ⟨a, vs.set nb u, List.getElem?_set_self hl, by rw [List.length_set]; exact g2, fun j f hj => ?_⟩
      rw [hf]
      by_cases ej : nb = j
      · subst ej
        rw [hfk] at hj
        cases hj
        refine ⟨u, List.getElem?_set_self (by rw [g2]; exact hnb), ?_⟩
        show hs_vm _ (hs_fv fk (hs_up S.1 (64 * k + nb) v (64 * k + nb))) u ∧ (fk.1 = 2 → hs_up S.1 (64 * k + nb) v (64 * k + nb) = 0 ∨ hs_up S.1 (64 * k + nb) v (64 * k + nb) = 1)
        rw [hs_up_eq]
        exact ⟨hu, hbl⟩
      · obtain ⟨u', q1, q2⟩ := g3 j f hj
        refine ⟨u', by rw [List.getElem?_set_ne ej]; exact q1, ?_⟩
        show hs_vm _ (hs_fv f (hs_up S.1 (64 * k + nb) v (64 * k + j))) u' ∧ (f.1 = 2 → hs_up S.1 (64 * k + nb) v (64 * k + j) = 0 ∨ hs_up S.1 (64 * k + nb) v (64 * k + j) = 1)
        rw [hs_up_ne (by omega)]
        exact q2
    · obtain ⟨a', vs', q1, q2, q3⟩ := h2 k' q hk'
      refine ⟨a', vs', by rw [List.getElem?_set_ne ek]; exact q1, q2, fun j f hj => ?_⟩
      obtain ⟨u', r1, r2⟩ := q3 j f hj
      have hjl : j < q.2.length := (List.getElem?_eq_some_iff.mp hj).1
      have hln' : q.2.length ≤ 64 := hc_len hk'
      rw [hf]
      refine ⟨u', r1, ?_⟩
      show hs_vm _ (hs_fv f (hs_up S.1 (64 * k + nb) v (64 * k' + j))) u' ∧ (f.1 = 2 → hs_up S.1 (64 * k + nb) v (64 * k' + j) = 0 ∨ hs_up S.1 (64 * k + nb) v (64 * k' + j) = 1)
      rw [hs_up_ne (by omega)]
      exact r2
  · have ek : ¬ k = k' := fun e => by
      subst e
      rw [hd k c' hc' h7'] at hk
      cases hk
    obtain ⟨a', e', q1, q2⟩ := h4 k' c' hc' h7'
    refine ⟨a', e', by rw [List.getElem?_set_ne ek]; exact q1, ?_⟩
    obtain ⟨n, m⟩ := c'
    match n, q2 with
    | 0, q2 => exact q2
    | 1, q2 => exact q2
    | 2, q2 => exact q2
    | 9, q2 => exact q2
/-- types and finals of the fields that are put -/
def hc_tyc (k : Nat) : Bool := match hc_ob k with
  | some q => (match vwCl[q.1]? with
    | some c9 => (List.range q.2.length).all fun j => Nat.blt j c9.2.2 && (match q.2[j]?, ai_ty q.1 j with
      | some (0, _), .int => true
      | some (1, _), .long => true
      | some (2, _), .boolean => true
      | some (4, _), _ => true
      | _, _ => false)
    | none => false)
  | none => true
theorem hc_tya : (List.range 72).all hc_tyc = true := by decide +kernel
theorem hc_ty {k nb ci : Nat} {fks : List (Nat × Int)} {fk : Nat × Int} {q9 : vw_C} (h : hc_ob k = some (ci, fks)) (hf : fks[nb]? = some fk) (hq : vwCl[ci]? = some q9) : nb < q9.2.2 ∧ (fk.1 = 0 → ai_ty ci nb = .int) ∧ (fk.1 = 1 → ai_ty ci nb = .long) ∧ (fk.1 = 2 → ai_ty ci nb = .boolean) := by
  have g := List.all_eq_true.mp hc_tya k (List.mem_range.mpr (hc_72 h))
  unfold hc_tyc at g
  rw [h] at g
  dsimp only at g
  rw [hq] at g
  dsimp only at g
  have g := List.all_eq_true.mp g nb (List.mem_range.mpr (List.getElem?_eq_some_iff.mp hf).1)
  rw [hf, Bool.and_eq_true] at g
  obtain ⟨g1, g2⟩ := g
  refine ⟨Nat.le_of_ble_eq_true g1, ?_⟩
  obtain ⟨t, c⟩ := fk
  generalize ai_ty ci nb = y at g2 ⊢
  match t, g2 with
  | 0, g2 => cases y <;> first | exact ⟨fun _ => rfl, fun h => (by cases h), fun h => (by cases h)⟩ | cases g2
  | 1, g2 => cases y <;> first | exact ⟨fun h => (by cases h), fun _ => rfl, fun h => (by cases h)⟩ | cases g2
  | 2, g2 => cases y <;> first | exact ⟨fun h => (by cases h), fun h => (by cases h), fun _ => rfl⟩ | cases g2
  | t + 3, _ => exact ⟨fun h => (by cases h), fun h => (by cases h), fun h => (by cases h)⟩
/-- every state of the machine that is said so goes on -/
def hc_K (p : Program) (l : Launch) (e : Env) (R : Room) (s : State) (m : MethodId) (args : Array Value) (below : List Frame) (meth : Method) (c : Code) (Q : State → Prop) (D : va_G) (A : Nat → Prop) (nL : Nat) (sb : ai_SB) (sh : List (Nat × Nat)) (ad : List Nat) (pc : Nat) (lv : hs_L) (st : List hs_V) (S : hs_S) : Prop := ∀ (ls : Array Slot) (stk : List Value) (H : Heap) (locs : List Loc) (ws : va_W) (tys : List (ClassId × FieldType)), ws.map Prod.fst = ad → hs_lv ad lv nL ls → ai_F2 (hs_vm ad) st stk → va_P D vwCl ws H → va_D A ws → va_K D vwCl tys s → va_S A s.heap H locs → hc_ok sb.2 sh tys S ws → W p l e R s m args below meth c H locs 0 0 Q (F0 m pc ls stk)
section HCC
variable {p : Program} {l : Launch} {e : Env} {R : Room} {s : State} {m : MethodId} {args : Array Value} {below : List Frame} {meth : Method} {c : Code} {Q : State → Prop} {D : va_G} {A : Nat → Prop} {nL : Nat} {sb : ai_SB} {sh : List (Nat × Nat)} {ad : List Nat} {xs : Nat → Int32} {M : Nat} {pc : Nat} {lv : hs_L} {rA : List hs_V} {S : hs_S}
/-- behind a call -/
theorem hc_call_ok {ws : va_W} {tys : List (ClassId × FieldType)} {H : Heap} {locs : List Loc} {ls : Array Slot} {st0 rest : List Value} {post : hs_Q} {a : Array Value} (hA : ∀ q, s.heap.size ≤ q → A q) (ha : ws.map Prod.fst = ad) (hP : va_P D vwCl ws H) (hD : va_D A ws) (hKk : va_K D vwCl tys s) (hS : va_S A s.heap H locs) (hls : hs_lv ad lv nL ls) (hst : ai_F2 (hs_vm ad) rA rest) (hr : va_Run p l e R s m args below meth c H locs 0 0 0 0 (F0 m pc ls st0) rest (hc_Qc sb sh D ws post (va_A ws H.size) a) (va_A ws H.size)) (hK : ∀ ro S1, post ro S1 → hc_K p l e R s m args below meth c Q D A nL sb sh ad (pc + 3) lv (ro ++ rA) S1) : W p l e R s m args below meth c H locs 0 0 Q (F0 m pc ls st0) := by
  have hAA : ∀ q, va_A ws H.size q → A q := by
    intro q hq
    rcases hq with ⟨k, e9, hk⟩ | hq
    · exact hD.2 k _ hk
    · exact hA q (Nat.le_trans hS.1 hq)
  refine ai_run hr (fun v st t H1 Lc h0 h1 hv hq hL => ?_)
  obtain ⟨⟨ro, S1, rv, ws1, tys1, e1, e2, e3, e4, e5, e6, e7, e8⟩, hz, hk⟩ := hq
  cases e1
  rw [h0] at hz hk
  rw [h1] at hz hk e4
  have e2' : ws1.map Prod.fst = ad := e2.trans ha
  rw [e2'] at e3
  refine hK ro S1 e8 ls (v.toList ++ rest) H1 (locs ++ Lc) ws1 tys1 e2' hls (ai_F2.app e3 hst) e4 (e5.weaken (fun _ _ _ h => hAA _ h)) (va_K.moved hv.symm e6) ⟨Nat.le_trans hS.1 hz, fun q g1 g2 => ?_, fun q g => ?_⟩ e7
  · rw [hk q (Nat.lt_of_lt_of_le g1 hS.1) (fun z => g2 (hAA q z))]
    exact hS.2.1 q g1 g2
  · rcases List.mem_append.mp g with g | g
    · exact hS.2.2 q g
    · exact hAA _ (hL q g)
end HCC

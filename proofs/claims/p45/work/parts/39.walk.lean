/-! ===== one turn of the law's loop, over all cases ===== -/
abbrev lq_V : Type := Nat × Nat
/-- the answers that the arguments alone decide: 0 doors, 1 image, 2 terms -/
def lq_D (c : Nat) (x : Nat → Int32) : Int32 := match c with
  | 0 => dr_D (x 1) (x 2) (x 3) (x 4)
  | 1 => bif Nat.blt (ib_a (x 1)) 2 then 0 else -1
  | _ => bif tm_c 1 50 (x 1) == 1 && tm_c 0 9 (x 2) == 1 then 0 else -1
theorem lq_D1 {x : Nat → Int32} {z : Int32} (h : z.toInt = im_Z (ib_a (x 1))) : z = lq_D 1 x := by
  apply Int32.toInt_inj.mp
  rw [h]
  unfold im_Z
  show _ = (bif Nat.blt (ib_a (x 1)) 2 then (0 : Int32) else -1).toInt
  cases Nat.blt (ib_a (x 1)) 2 <;> rfl
theorem lq_D2 {x : Nat → Int32} {z : Int32} (h : z.toInt = tm_Z (tm_c 1 50 (x 1)) (tm_c 0 9 (x 2))) : z = lq_D 2 x := by
  apply Int32.toInt_inj.mp
  rw [h]
  unfold tm_Z
  show _ = (bif tm_c 1 50 (x 1) == 1 && tm_c 0 9 (x 2) == 1 then (0 : Int32) else -1).toInt
  cases (tm_c 1 50 (x 1) == 1 && tm_c 0 9 (x 2) == 1) <;> rfl
def lq_n (sh : Nat) : Nat := match sh with
  | 0 => 0
  | 1 => 1
  | 2 => 1
  | _ => 2
theorem lq_nx : ∀ sh, sh < 5 → ∀ a, a < 4 → lq_n (ib_nx sh a) = lq_n sh + (bif ib_nw sh a then 1 else 0) := by decide
theorem lq_n2 (sh : Nat) : lq_n sh ≤ 2 := by
  unfold lq_n
  split <;> decide
/-- 0 a number, 1 the class's object, 2 the reference's, 3 the script, 4 the place of the turn and so many more, 5 a constant, 6 the script's number so many places on, 7 one of the pure answers -/
def lq_m (bX bC bR i : Nat) (xs : Nat → Int32) (v : lq_V) (u : Value) : Prop := match v with
  | (0, _) => ∃ z : Int32, u = .int z
  | (1, _) => u = .ref bC
  | (2, _) => u = .ref bR
  | (3, _) => u = .ref bX
  | (4, k) => u = .int (nI (i + k))
  | (5, k) => u = .int (nI k)
  | (6, k) => u = .int (xs (i + k))
  | (7, k) => u = .int (lq_D k (fun j => xs (i + j)))
  | _ => False
theorem lq_cat1 {bX bC bR i : Nat} {xs : Nat → Int32} {v : lq_V} {u : Value} (h : lq_m bX bC bR i xs v u) : u.category = 1 := by
  obtain ⟨n, k⟩ := v
  match n, h with
  | 0, h => obtain ⟨z, rfl⟩ := h; rfl
  | 1, h => cases h; rfl
  | 2, h => cases h; rfl
  | 3, h => cases h; rfl
  | 4, h => cases h; rfl
  | 5, h => cases h; rfl
  | 6, h => cases h; rfl
  | 7, h => cases h; rfl
  | n + 8, h => exact h.elim
theorem lq_cats {bX bC bR i : Nat} {xs : Nat → Int32} : ∀ {st : List lq_V} {stk : List Value}, ai_F2 (lq_m bX bC bR i xs) st stk → (stk.map fun v => v.category).sum = st.length
  | [], [], _ => rfl
  | _ :: _, _ :: _, h => by rw [List.map_cons, List.sum_cons, lq_cat1 h.1, lq_cats h.2, List.length_cons]; omega
  | [], _ :: _, h => h.elim
  | _ :: _, [], h => h.elim
def lq_six (l : List lq_V) : Bool := l.all (fun v => v.1 == 6)
theorem lq_ints {bX bC bR i : Nat} {xs : Nat → Int32} : ∀ {st : List lq_V} {stk : List Value}, lq_six st = true → ai_F2 (lq_m bX bC bR i xs) st stk → stk = (st.map (fun v => xs (i + v.2))).map Value.int
  | [], [], _, _ => rfl
  | (n, k) :: r, u :: us, h, hF => by
    unfold lq_six at h
    rw [List.all_cons, Bool.and_eq_true, beq_iff_eq] at h
    have e : n = 6 := h.1
    subst e
    have h1 : u = .int (xs (i + k)) := hF.1
    rw [h1, lq_ints h.2 hF.2]
    rfl
  | [], _ :: _, _, h => h.elim
  | _ :: _, [], _, h => h.elim
def lq_c (K : Nat) : Option (Nat × Nat) := pc_l.find? (fun q => q.1 == K)
def lq_r (K : Nat) : Option (Nat × Nat) := pr_l.find? (fun q => q.1 == K)
def lq_4 : List lq_V := [(6, 4), (6, 3), (6, 2), (6, 1)]
def lq_1 : List lq_V := [(6, 1)]
def lq_2 : List lq_V := [(6, 2), (6, 1)]
def lq_call (K nb t : Nat) (as : List lq_V) (k : lq_V → Bool) : Bool :=
  bif nb == 9 then t == 1 && (bif K == 325 || K == 306 then (bif K == 325 then as == lq_1 && k (7, 1) else k (0, 0)) else bif K == 316 then as == lq_4 && k (7, 0) else bif K == 354 then as == lq_2 && k (7, 2) else (lq_c K).isSome && k (0, 0))
  else nb == 10 && (t == 2 && (bif K == 69 then as == lq_1 && k (7, 1) else bif K == 34 then k (0, 0) else bif K == 51 then as == lq_4 && k (7, 0) else bif K == 146 then as == lq_2 && k (7, 2) else (lq_r K).isSome && k (0, 0)))
def lq_i (f : List ai_E → List lq_V → Bool) (en : ai_E) (r : List ai_E) (st : List lq_V) : Bool := match en.2.1 with
  | .aload_n k => bif (k : Nat) == 0 then f r ((3, 0) :: st) else bif (k : Nat) == 1 then f r ((1, 0) :: st) else (k : Nat) == 2 && f r ((2, 0) :: st)
  | .iload_n k => (k : Nat) == 3 && f r ((4, 0) :: st)
  | .iconst z => decide (0 ≤ z) && (decide (z ≤ 100) && f r ((5, z.toNat) :: st))
  | .bipush z => decide (0 ≤ z) && (decide (z ≤ 100) && f r ((5, z.toNat) :: st))
  | .iadd => match st with
    | (5, c) :: (4, k) :: q => Nat.ble (k + c) 6 && f r ((4, k + c) :: q)
    | _ => false
  | .iaload => match st with
    | (4, k) :: (3, _) :: q => Nat.ble k 6 && f r ((6, k) :: q)
    | _ => false
  | .invokevirtual _ => match st.drop (pk_np en.2.2.2.1) with
    | (t, _) :: q => lq_six (st.take (pk_np en.2.2.2.1)) && (Nat.ble q.length 8 && (Nat.ble (pk_np en.2.2.2.1) st.length && lq_call en.2.2.2.1 en.2.2.2.2.1 t (st.take (pk_np en.2.2.2.1)) (fun v => f r (v :: q))))
    | [] => false
  | .pop => match st with
    | _ :: q => f r q
    | [] => false
  | .if_icmp c off => match st with
    | [(7, k1), (7, k2)] => k1 == k2 && (ai_op c == 0 && decide ((en.1 : Int) + off = 2039))
    | _ => false
  | .goto off => match st with
    | [] => decide ((en.1 : Int) + off = 2039)
    | _ => false
  | _ => false
def lq_w : Nat → List ai_E → List lq_V → Bool
  | 0, _, _ => false
  | n + 1, code, st => match code with
    | [] => false
    | en :: r => lq_i (lq_w n) en r st
section LQS
variable {p : Program} {l : Launch} {e : Env} {R : Room} {s : State} {m : MethodId} {args : Array Value} {below : List Frame} {meth : Method} {c : Code} {Q : State → Prop} {D : va_G} {ls : Array Slot} {bX bC bR i L cs0 ss0 : Nat} {xs : Nat → Int32}
theorem lq_snd (cx : la_cx p s m args c R (ai_T 0).1 (ai_T 0).2.2.1) (hX : va_X bX L xs s s.heap) (hbX : bX < s.heap.size) (hi : i + 7 ≤ L) (hL : L ≤ 3584) (hls : lv_has ls 4 [(0, .ref bX), (1, .ref bC), (2, .ref bR), (3, .int (nI i))]) (hR : cs0 + 48 ≤ R.cells ∧ ss0 + 105728 ≤ R.slots) (hend : ∀ (sh : Nat) (H : Heap) (locs : List Loc), la_I D s bC bR sh H locs → W p l e R s m args below meth c H locs (cs0 + 24 * lq_n sh) (ss0 + 52864 * lq_n sh) Q (F0 m 2039 ls [])) : ∀ (n : Nat) (code : List ai_E) (st : List lq_V), lq_w n code st = true → ai_codeok ai_T (ai_T 0) code → ∃ en r, code = en :: r ∧ ∀ (sh : Nat) (H : Heap) (locs : List Loc) (stk : List Value), la_I D s bC bR sh H locs → ai_F2 (lq_m bX bC bR i xs) st stk → W p l e R s m args below meth c H locs (cs0 + 24 * lq_n sh) (ss0 + 52864 * lq_n sh) Q (F0 m en.1 ls stk) := by
  intro n
  induction n with
  | zero => intro code st h; cases h
  | succ n ih =>
    intro code st h hcode
    cases code with
    | nil => cases h
    | cons en r =>
      refine ⟨en, r, rfl, fun sh H locs stk hI hst => ?_⟩
      have h' : lq_i (lq_w n) en r st = true := h
      obtain ⟨⟨⟨hd, hlen, hw⟩, hj, hw2⟩, hnx, hcr⟩ := hcode
      have cx0 := cx
      obtain ⟨hx, hb, hml, hown, hts, hao, hnw, hsx, hRf, hRl⟩ := cx
      have hS : va_S (lw_A s) s.heap H locs := by
        obtain ⟨-, wC, wR, tys, sbC, sbR, -, -, -, hS, -⟩ := hI
        exact hS
      have hcap : cs0 + 24 * lq_n sh ≤ R.cells ∧ ss0 + 52864 * lq_n sh ≤ R.slots := by
        have := lq_n2 sh
        omega
      have nx : ∀ st', lq_w n r st' = true → ∀ (sh : Nat) (H : Heap) (locs : List Loc) (stk' : List Value), la_I D s bC bR sh H locs → ai_F2 (lq_m bX bC bR i xs) st' stk' → W p l e R s m args below meth c H locs (cs0 + 24 * lq_n sh) (ss0 + 52864 * lq_n sh) Q (F0 m (en.1 + en.2.2.1) ls stk') := by
        intro st' g sh H locs stk' hI' hst'
        obtain ⟨en2, r2, e2, k2⟩ := ih r st' g hcr
        have := k2 sh H locs stk' hI' hst'
        rw [hnx en2 r2 e2] at this
        exact this
      obtain ⟨pc, ins, len, na, nb, ni, nz⟩ := en
      unfold lq_i at h'
      dsimp only at hd hlen hw hj hw2 hnx nx h' ⊢
      have l1 : ai_len ins = 1 → len = 1 := fun q => by rcases hlen with h | h <;> omega
      have l2 : ai_len ins = 2 → len = 2 := fun q => by rcases hlen with h | h <;> omega
      have l3 : ai_len ins = 3 → len = 3 := fun q => by rcases hlen with h | h <;> omega
      split at h'
      · rename_i k
        cases l1 rfl
        cases e0 : ((k : Nat) == 0) with
        | true =>
          rw [e0, cond_true] at h'
          rw [beq_iff_eq] at e0
          exact lv_aload_n hx hb hd e0 (lv_at hls 0 rfl) (nx _ h' sh H locs _ hI ⟨rfl, hst⟩)
        | false =>
          rw [e0, cond_false] at h'
          cases e1 : ((k : Nat) == 1) with
          | true =>
            rw [e1, cond_true] at h'
            rw [beq_iff_eq] at e1
            exact lv_aload_n hx hb hd e1 (lv_at hls 1 rfl) (nx _ h' sh H locs _ hI ⟨rfl, hst⟩)
          | false =>
            rw [e1, cond_false, Bool.and_eq_true, beq_iff_eq] at h'
            exact lv_aload_n hx hb hd h'.1 (lv_at hls 2 rfl) (nx _ h'.2 sh H locs _ hI ⟨rfl, hst⟩)
      · rename_i k
        cases l1 rfl
        rw [Bool.and_eq_true, beq_iff_eq] at h'
        exact lv_iload_n hx hb hd h'.1 (lv_at hls 3 rfl) (nx _ h'.2 sh H locs _ hI ⟨rfl, hst⟩)
      · rename_i z
        cases l1 rfl
        simp only [Bool.and_eq_true, decide_eq_true_eq] at h'
        refine lv_iconst hx hb hd (v := nI z.toNat) ?_ (nx _ h'.2.2 sh H locs _ hI ⟨rfl, hst⟩)
        apply Int32.toInt_inj.mp
        rw [hs_int32 (by omega) (by omega), nI_toInt (by omega)]
        omega
      · rename_i z
        cases l2 rfl
        simp only [Bool.and_eq_true, decide_eq_true_eq] at h'
        refine lv_bipush hx hb hd (v := nI z.toNat) ?_ (nx _ h'.2.2 sh H locs _ hI ⟨rfl, hst⟩)
        apply Int32.toInt_inj.mp
        rw [hs_int8 (by omega) (by omega), nI_toInt (by omega)]
        omega
      · cases l1 rfl
        split at h'
        · rename_i c1 k1 q
          rw [Bool.and_eq_true, Nat.ble_eq] at h'
          obtain ⟨u1, us1, rfl, m1, hst1⟩ := hst.cons
          obtain ⟨u2, us2, rfl, m2, hst2⟩ := hst1.cons
          cases (show u1 = .int (nI c1) from m1)
          cases (show u2 = .int (nI (i + k1)) from m2)
          refine lv_iadd hx hb hd ?_
          rw [nI_add, Nat.add_assoc]
          exact nx _ h'.2 sh H locs _ hI ⟨rfl, hst2⟩
        · cases h'
      · cases l1 rfl
        split at h'
        · rename_i k1 z1 q
          rw [Bool.and_eq_true, Nat.ble_eq] at h'
          obtain ⟨u1, us1, rfl, m1, hst1⟩ := hst.cons
          obtain ⟨u2, us2, rfl, m2, hst2⟩ := hst1.cons
          cases (show u1 = .int (nI (i + k1)) from m1)
          cases (show u2 = .ref bX from m2)
          refine va_sld hx hb hX hbX (Nat.not_le.mpr hbX) hS (vp_in_nI (by omega) (by omega)) hd ?_
          rw [nI_clamp (by omega)]
          exact nx _ h'.2 sh H locs _ hI ⟨rfl, hst2⟩
        · cases h'
      · rename_i idx
        cases l3 rfl
        split at h'
        · rename_i t t2 q hdr
          simp only [Bool.and_eq_true, Nat.ble_eq] at h'
          obtain ⟨h6, h8, hnl, hcall⟩ := h'
          obtain ⟨hlk, q9, hq9, hq8⟩ := hw2
          have hst1 := hst.take (pk_np na)
          have hst2 := hst.drop (pk_np na)
          rw [hdr] at hst2
          obtain ⟨u, us, eus, mu, hstq⟩ := hst2.cons
          have hi6 := lq_ints h6 hst1
          generalize hys : (st.take (pk_np na)).map (fun v => xs (i + v.2)) = ys at hi6
          have hnp : (ai_T na).2.2.2.2.2.1 = ys.reverse.length := by
            rw [List.length_reverse, ← hys, List.length_map, List.length_take]
            show pk_np na = _
            omega
          have estk : stk = ((ys.reverse).map Value.int).reverse ++ u :: us := by
            rw [← List.map_reverse, List.reverse_reverse, ← hi6, ← eus, List.take_append_drop]
          have hcat : (us.map fun v => v.category).sum ≤ 8 := by rw [lq_cats hstq]; exact h8
          rw [estk]
          have hls4 : ls.size = 4 := hls.1
          unfold lq_call at hcall
          cases e9 : (nb == 9) with
          | true =>
            rw [e9, cond_true, Bool.and_eq_true, beq_iff_eq] at hcall
            obtain ⟨rfl, hcall⟩ := hcall
            rw [beq_iff_eq] at e9
            subst e9
            cases (show u = .ref bC from mu)
            have hcl : RX9 = (ai_T na).2.1.cls := by
              cases (show some (RX9, TX9, 9) = some q9 from hq9)
              exact hq8
            cases ei : (na == 325 || na == 306) with
            | true =>
              rw [ei, cond_true] at hcall
              rw [Bool.or_eq_true, beq_iff_eq, beq_iff_eq] at ei
              have hone : ∃ x, ys.reverse = [x] := by
                have e1 : (ai_T na).2.2.2.2.2.1 = 1 := by
                  rcases ei with rfl | rfl
                  · decide +kernel
                  · decide +kernel
                rw [e1] at hnp
                exact List.length_eq_one_iff.mp hnp.symm
              obtain ⟨x, hx1⟩ := hone
              rw [hx1]
              rcases ei with rfl | rfl
              · rw [show ((325 : Nat) == 325) = true from rfl, cond_true, Bool.and_eq_true, beq_iff_eq] at hcall
                obtain ⟨h1a, hcall⟩ := hcall
                have hx2 : x = xs (i + 1) := by
                  rw [← hys, h1a] at hx1
                  exact (List.cons.inj hx1).1.symm
                subst hx2
                have hsh := hI.1
                have hnn := lq_nx sh hsh _ (ib_a4 (xs (i + 1)))
                have hn2 := lq_n2 (ib_nx sh (ib_a (xs (i + 1))))
                have b1 : 24 * lq_n (ib_nx sh (ib_a (xs (i + 1)))) = 24 * lq_n sh + (bif ib_nw sh (ib_a (xs (i + 1))) then 24 else 0) := by
                  rw [hnn]
                  cases ib_nw sh (ib_a (xs (i + 1))) <;> simp only [cond_true, cond_false] <;> omega
                have b2 : 52864 * lq_n (ib_nx sh (ib_a (xs (i + 1)))) = 52864 * lq_n sh + (bif ib_nw sh (ib_a (xs (i + 1))) then 52864 else 0) := by
                  rw [hnn]
                  cases ib_nw sh (ib_a (xs (i + 1))) <;> simp only [cond_true, cond_false] <;> omega
                refine la_imz (x := xs (i + 1)) cx0 hI hlk hls4 (by omega) hcat hd (fun z hz H1 Lc hI1 => ?_)
                have := nx _ hcall _ H1 (locs ++ Lc) (.int z :: us) hI1 ⟨congrArg Value.int (lq_D1 (x := fun j => xs (i + j)) hz), hstq⟩
                rw [b1, b2, ← Nat.add_assoc, ← Nat.add_assoc] at this
                exact this
              · rw [show ((306 : Nat) == 325) = false from rfl, cond_false] at hcall
                exact la_bck (x := x) cx0 hI hlk hls4 hcap hcat hd (fun z H1 Lc hI1 => nx _ hcall sh H1 (locs ++ Lc) (.int z :: us) hI1 ⟨⟨z, rfl⟩, hstq⟩)
            | false =>
              rw [ei, cond_false] at hcall
              cases ed : (na == 316) with
              | true =>
                rw [ed, cond_true, Bool.and_eq_true, beq_iff_eq] at hcall
                rw [beq_iff_eq] at ed
                subst ed
                obtain ⟨h4, hcall⟩ := hcall
                have hys4 : ys.reverse = [xs (i + 1), xs (i + 2), xs (i + 3), xs (i + 4)] := by
                  rw [← hys, h4]
                  rfl
                rw [hys4]
                exact dk_cls cx0 hI hlk hls4 hcap hcat hd (fun H1 Lc hI1 => nx _ hcall sh H1 (locs ++ Lc) _ hI1 ⟨rfl, hstq⟩)
              | false =>
                rw [ed, cond_false] at hcall
                cases et : (na == 354) with
                | true =>
                  rw [et, cond_true, Bool.and_eq_true, beq_iff_eq] at hcall
                  rw [beq_iff_eq] at et
                  subst et
                  obtain ⟨h2a, hcall⟩ := hcall
                  have hys2 : ys.reverse = [xs (i + 1), xs (i + 2)] := by
                    rw [← hys, h2a]
                    rfl
                  rw [hys2]
                  exact la_clz (Z := tm_Z (tm_c 1 50 (xs (i + 1))) (tm_c 0 9 (xs (i + 2)))) cx0 hI (fun sb l D ws tys b sz hb hws => tm_met (by decide +kernel) (Nat.le_of_ble_eq_true rfl) tm_kc _ _ sb l D ws tys b sz hb hws) (ai_hM 354 (by decide +kernel)) (by decide +kernel) ⟨by decide +kernel, by decide +kernel, by decide +kernel⟩ ⟨by decide +kernel, by decide +kernel⟩ (show (ai_T 354).2.2.2.2.2.1 = 2 from by decide +kernel) hcl hlk hls4 hcap hcat hd (fun z hz H1 Lc hI1 => nx _ hcall sh H1 (locs ++ Lc) (.int z :: us) hI1 ⟨congrArg Value.int (lq_D2 (x := fun j => xs (i + j)) hz), hstq⟩)
                | false =>
                rw [et, cond_false, Bool.and_eq_true] at hcall
                obtain ⟨hs, hcall⟩ := hcall
                obtain ⟨⟨K', ix⟩, hf⟩ := Option.isSome_iff_exists.mp hs
                have hK := List.find?_some hf
                have hmem := List.mem_of_find?_eq_some hf
                rw [beq_iff_eq] at hK
                dsimp only at hK
                subst hK
                have ho := List.all_eq_true.mp pc_all _ hmem
                unfold pc_ok at ho
                simp only [Bool.and_eq_true, beq_iff_eq, decide_eq_true_eq] at ho
                obtain ⟨o1, o2, o3, o4⟩ := ho
                unfold pk_rm at o4
                simp only [Bool.and_eq_true, beq_iff_eq, decide_eq_true_eq] at o4
                obtain ⟨r1, r2, r3, r4, -⟩ := o4
                have hC := la_ct (i := ix) (fun sb => zl_226 (zz_op sb) ix o2) o3
                rw [o1] at hC
                have hnp' : pk_np K' = ys.reverse.length := hnp
                rw [hnp'] at hC
                exact la_cls (i := ix) (xs := ys.reverse) cx0 hI hC (ai_hM K' (by intro h3; rw [show (ai_T K').2.2.2.2.2.2.2 = 0 from r4] at h3; cases h3)) r4 ⟨r1, r2, r3⟩ (la_chk0 o3) hnp hcl hlk hls4 hcap hcat hd (fun z H1 Lc hI1 => nx _ hcall sh H1 (locs ++ Lc) (.int z :: us) hI1 ⟨⟨z, rfl⟩, hstq⟩)
          | false =>
            rw [e9, cond_false, Bool.and_eq_true, Bool.and_eq_true, beq_iff_eq, beq_iff_eq] at hcall
            obtain ⟨rfl, rfl, hcall⟩ := hcall
            cases (show u = .ref bR from mu)
            have hcl : RX10 = (ai_T na).2.1.cls := by
              cases (show some (RX10, TX10, 62) = some q9 from hq9)
              exact hq8
            have hone1 : ∀ K, K = 69 ∨ K = 34 → na = K → ∃ x, ys.reverse = [x] := by
              intro K hK ek
              have e1 : (ai_T na).2.2.2.2.2.1 = 1 := by
                rcases hK with h | h
                · rw [ek, h]
                  decide +kernel
                · rw [ek, h]
                  decide +kernel
              rw [e1] at hnp
              exact List.length_eq_one_iff.mp hnp.symm
            cases ei : (na == 69) with
            | true =>
              rw [ei, cond_true, Bool.and_eq_true, beq_iff_eq] at hcall
              rw [beq_iff_eq] at ei
              obtain ⟨h1a, hcall⟩ := hcall
              have hys1 : ys.reverse = [xs (i + 1)] := by
                rw [← hys, h1a]
                rfl
              rw [hys1]
              subst ei
              exact la_riz (x := xs (i + 1)) cx0 hI hlk hls4 hcap hcat hd (fun z hz H1 Lc hI1 => nx _ hcall sh H1 (locs ++ Lc) (.int z :: us) hI1 ⟨congrArg Value.int (lq_D1 (x := fun j => xs (i + j)) hz), hstq⟩)
            | false =>
              rw [ei, cond_false] at hcall
              cases eb : (na == 34) with
              | true =>
                rw [eb, cond_true] at hcall
                rw [beq_iff_eq] at eb
                obtain ⟨x, hx1⟩ := hone1 34 (Or.inr rfl) eb
                rw [hx1]
                exact la_rim (x := x) (Or.inr eb) cx0 hI hlk hls4 hcap hcat hd (fun z H1 Lc hI1 => nx _ hcall sh H1 (locs ++ Lc) (.int z :: us) hI1 ⟨⟨z, rfl⟩, hstq⟩)
              | false =>
              rw [eb, cond_false] at hcall
              cases ed : (na == 51) with
              | true =>
                rw [ed, cond_true, Bool.and_eq_true, beq_iff_eq] at hcall
                rw [beq_iff_eq] at ed
                subst ed
                obtain ⟨h4, hcall⟩ := hcall
                have hys4 : ys.reverse = [xs (i + 1), xs (i + 2), xs (i + 3), xs (i + 4)] := by
                  rw [← hys, h4]
                  rfl
                rw [hys4]
                exact dk_ref cx0 hI hlk hls4 hcap hcat hd (fun H1 Lc hI1 => nx _ hcall sh H1 (locs ++ Lc) _ hI1 ⟨rfl, hstq⟩)
              | false =>
                rw [ed, cond_false] at hcall
                cases et : (na == 146) with
                | true =>
                  rw [et, cond_true, Bool.and_eq_true, beq_iff_eq] at hcall
                  rw [beq_iff_eq] at et
                  subst et
                  obtain ⟨h2a, hcall⟩ := hcall
                  have hys2 : ys.reverse = [xs (i + 1), xs (i + 2)] := by
                    rw [← hys, h2a]
                    rfl
                  rw [hys2]
                  exact la_rfz (Z := tm_Z (tm_c 1 50 (xs (i + 1))) (tm_c 0 9 (xs (i + 2)))) cx0 hI (fun sb l D ws tys b sz hb hws => tm_met (by decide +kernel) (Nat.le_of_ble_eq_true rfl) tm_kr _ _ sb l D ws tys b sz hb hws) (ai_hM 146 (by decide +kernel)) (by decide +kernel) ⟨by decide +kernel, by decide +kernel, by decide +kernel⟩ ⟨by decide +kernel, by decide +kernel⟩ (show (ai_T 146).2.2.2.2.2.1 = 2 from by decide +kernel) hcl hlk hls4 hcap hcat hd (fun z hz H1 Lc hI1 => nx _ hcall sh H1 (locs ++ Lc) (.int z :: us) hI1 ⟨congrArg Value.int (lq_D2 (x := fun j => xs (i + j)) hz), hstq⟩)
                | false =>
                rw [et, cond_false, Bool.and_eq_true] at hcall
                obtain ⟨hs, hcall⟩ := hcall
                obtain ⟨⟨K', ix⟩, hf⟩ := Option.isSome_iff_exists.mp hs
                have hK := List.find?_some hf
                have hmem := List.mem_of_find?_eq_some hf
                rw [beq_iff_eq] at hK
                dsimp only at hK
                subst hK
                have ho := List.all_eq_true.mp pr_all _ hmem
                unfold pr_ok at ho
                simp only [Bool.and_eq_true, beq_iff_eq, decide_eq_true_eq] at ho
                obtain ⟨o1, o2, o3, o4⟩ := ho
                unfold pk_rm at o4
                simp only [Bool.and_eq_true, beq_iff_eq, decide_eq_true_eq] at o4
                obtain ⟨r1, r2, r3, r4, -⟩ := o4
                have hC := la_ct (i := ix) (fun sb => yl_75 (sb := sb) ix o2) o3
                rw [o1] at hC
                have hnp' : pk_np K' = ys.reverse.length := hnp
                rw [hnp'] at hC
                exact la_ref (i := ix) (xs := ys.reverse) cx0 hI hC (ai_hM K' (by intro h3; rw [show (ai_T K').2.2.2.2.2.2.2 = 0 from r4] at h3; cases h3)) r4 ⟨r1, r2, r3⟩ (la_chk0 o3) hnp hcl hlk hls4 hcap hcat hd (fun z H1 Lc hI1 => nx _ hcall sh H1 (locs ++ Lc) (.int z :: us) hI1 ⟨⟨z, rfl⟩, hstq⟩)
        · cases h'
      · cases l1 rfl
        split at h'
        · rename_i v q
          obtain ⟨u1, us1, rfl, m1, hst1⟩ := hst.cons
          exact lv_pop hx hb hd (lq_cat1 m1) (nx _ h' sh H locs _ hI hst1)
        · cases h'
      · rename_i q off
        cases l3 rfl
        split at h'
        · rename_i k1 k2
          rw [Bool.and_eq_true, Bool.and_eq_true, beq_iff_eq, beq_iff_eq, decide_eq_true_eq] at h'
          obtain ⟨hk12, h'⟩ := h'
          subst hk12
          obtain ⟨u1, us1, rfl, m1, hst1⟩ := hst.cons
          obtain ⟨u2, us2, rfl, m2, hst2⟩ := hst1.cons
          cases m1
          cases m2
          rw [hst2.nil]
          exact ai_icmp hx hb hd (tgt := 2039) h'.2 (fun _ => hend sh H locs hI) (fun g => absurd (by rw [h'.1]; rfl) g)
        · cases h'
      · rename_i off
        cases l3 rfl
        split at h'
        · rw [decide_eq_true_eq] at h'
          rw [hst.nil]
          exact lv_goto hx hb hd (tgt := 2039) h' (hend sh H locs hI)
        · cases h'
      · cases h'
end LQS

/-! ===== the reference's readers, by hand, more (by wip/gen/mkhr3.py) ===== -/
def t_brokenOf : hs_T := fun as S post => match as with
  | [(4, z), (0, b), (0, k)] => z = 0 ∧ (0 ≤ b ∧ b ≤ 39) ∧ (0 ≤ S.2 1 5 ∧ S.2 1 5 ≤ 200) ∧ post [(0, r_fb (S.2 1) b k (S.2 1 5).toNat)] S
  | _ => False
def t_aheadOf : hs_T := fun as S post => match as with
  | [(4, z), (0, t), (0, k)] => z = 0 ∧ (0 ≤ t ∧ t ≤ 199) ∧ (0 ≤ S.2 1 5 ∧ S.2 1 5 ≤ 200) ∧ post [(0, r_ah (S.2 1) t k (S.2 1 5).toNat)] S
  | _ => False
def t_boothOf : hs_T := fun as S post => match as with
  | [(4, z), (0, i)] => z = 0 ∧ (0 ≤ i ∧ i ≤ 199) ∧ (0 ≤ r_c (S.2 1) i 0 ∧ r_c (S.2 1) i 0 ≤ 39) ∧ post [(0, r_bt (S.2 1) i)] S
  | _ => False
section Z24
theorem c_boothOf : hs_C hs_sh 40 t_boothOf := by
  refine hs_met0 (nL := 2) (n0 := 60) [] e_r (by decide +kernel) rfl rfl ?_
  intro as S post h
  unfold t_boothOf at h
  split at h
  · rename_i z i
    obtain ⟨rfl, hi, hb, p⟩ := h
    have e0 : r_c (S.2 1) i 0 = S.2 1 (4008 + 5 * i).toNat := by
      unfold r_c
      rw [Int.add_zero]
    have e1 : r_bt (S.2 1) i = S.2 1 (2448 + 2 * S.2 1 (4008 + 5 * i).toNat).toNat := by
      unfold r_bt r_b
      rw [Int.add_zero, e0]
    rw [e0] at hb
    rw [e1] at p
    refine ⟨Nat.le_of_ble_eq_true rfl, ?_⟩
    exact And.intro (by show -2147483648 ≤ 5 * i ∧ 5 * i ≤ 2147483647; omega) (And.intro (by show -2147483648 ≤ 4008 + 5 * i ∧ 4008 + 5 * i ≤ 2147483647; omega) (And.intro (by show 0 ≤ 4008 + 5 * i ∧ 4008 + 5 * i < (23016 : Nat); omega) (And.intro (by show -2147483648 ≤ 2 * S.2 1 (4008 + 5 * i).toNat ∧ 2 * S.2 1 (4008 + 5 * i).toNat ≤ 2147483647; omega) (And.intro (by show -2147483648 ≤ 2448 + 2 * S.2 1 (4008 + 5 * i).toNat ∧ 2448 + 2 * S.2 1 (4008 + 5 * i).toNat ≤ 2147483647; omega) (And.intro (by show 0 ≤ 2448 + 2 * S.2 1 (4008 + 5 * i).toNat ∧ 2448 + 2 * S.2 1 (4008 + 5 * i).toNat < (23016 : Nat); omega) (p))))))
  · cases h
theorem c_brokenOf : hs_C hs_sh 44 t_brokenOf := by
  refine hs_met (nL := 7) (n0 := 60) (n := 160) [] [5] e_r (by decide +kernel) rfl rfl ?_
  intro as S post h
  unfold t_brokenOf at h
  split at h
  · rename_i z b k9
    obtain ⟨rfl, hb, h5, p⟩ := h
    refine ⟨Nat.le_of_ble_eq_true rfl, fun hh k g st S' => st = [] ∧ S' = S ∧ ∃ (i : Nat) (v : Int), g = [(0, (4, 0)), (1, (0, b)), (2, (0, k9)), (3, (0, v)), (4, (0, (i : Int)))] ∧ v = r_fb (S.2 1) b k9 i ∧ (i : Int) ≤ S.2 1 5 ∧ S.2 1 5 - i ≤ (k : Int), ?_, ?_⟩
    · exact Exists.intro 1000 (Exists.intro [(0, (4, 0)), (1, (0, b)), (2, (0, k9)), (3, (0, -1)), (4, (0, ((0 : Nat) : Int)))] (And.intro (And.intro rfl (And.intro rfl (And.intro rfl (And.intro rfl (And.intro rfl trivial))))) (And.intro rfl (And.intro rfl (Exists.intro 0 (Exists.intro (-1) (And.intro rfl (And.intro rfl (And.intro (by omega) (by omega))))))))))
    · intro hh hm
      simp only [List.mem_cons, List.not_mem_nil, or_false] at hm
      subst hm
      intro k g st S' hI
      obtain ⟨rfl, rfl, i, v, rfl, hv, hi, hk⟩ := hI
      refine And.intro ⟨by decide, by decide⟩ (And.intro (fun g1 => ?_) (fun g1 => ?_))
      · have g1 : S'.2 1 5 ≤ (i : Int) := g1
        have e : (S'.2 1 5).toNat = i := by omega
        rw [e, ← hv] at p
        exact p
      have g1 : ¬ S'.2 1 5 ≤ (i : Int) := g1
      have bi : -2147483648 ≤ (i : Int) + 1 ∧ (i : Int) + 1 ≤ 2147483647 := by omega
      have e0 : r_h (S'.2 1) i 0 = S'.2 1 (2528 + 5 * (i : Int)).toNat := by
        unfold r_h
        rw [Int.add_zero]
      have vb := r_fb_b (R := S'.2 1) (b := b) (k := k9) i
      rw [← hv] at vb
      refine And.intro (by show -2147483648 ≤ 5 * (i : Int) ∧ 5 * (i : Int) ≤ 2147483647; omega) (And.intro (by show -2147483648 ≤ 2528 + 5 * (i : Int) ∧ 2528 + 5 * (i : Int) ≤ 2147483647; omega) (And.intro (by show 0 ≤ 2528 + 5 * (i : Int) ∧ 2528 + 5 * (i : Int) < (23016 : Nat); omega) (And.intro (fun c0 => ?_) (fun c0 => And.intro (by show -2147483648 ≤ 2528 + 5 * (i : Int) + 4 ∧ 2528 + 5 * (i : Int) + 4 ≤ 2147483647; omega) (And.intro (by show 0 ≤ 2528 + 5 * (i : Int) + 4 ∧ 2528 + 5 * (i : Int) + 4 < (23016 : Nat); omega) (And.intro (fun c1 => ?_) (fun c1 => And.intro (by show -2147483648 ≤ 2528 + 5 * (i : Int) + 3 ∧ 2528 + 5 * (i : Int) + 3 ≤ 2147483647; omega) (And.intro (by show 0 ≤ 2528 + 5 * (i : Int) + 3 ∧ 2528 + 5 * (i : Int) + 3 < (23016 : Nat); omega) (And.intro (by show -2147483648 ≤ 2 * b ∧ 2 * b ≤ 2147483647; omega) (And.intro (by show -2147483648 ≤ 2448 + 2 * b ∧ 2448 + 2 * b ≤ 2147483647; omega) (And.intro (by show -2147483648 ≤ 2448 + 2 * b + 1 ∧ 2448 + 2 * b + 1 ≤ 2147483647; omega) (And.intro (by show 0 ≤ 2448 + 2 * b + 1 ∧ 2448 + 2 * b + 1 < (23016 : Nat); omega) (And.intro (fun c2 => ?_) (fun c2 => ce1 (And.intro (fun c3 => ?_) (fun c3 => ?_))))))))))))))))
      · have c0 : ¬ S'.2 1 (2528 + 5 * (i : Int)).toNat = b := c0
        have ev : v = r_fb (S'.2 1) b k9 (i + 1) := by
          rw [r_fb_s, ← hv]
          split
          · rename_i q
            exfalso
            exact c0 (e0.symm.trans q.1.1.1)
          · rfl
        exact ce0 (And.intro bi (Exists.intro (k - 1) (And.intro (by omega) (Exists.intro [(0, (4, 0)), (1, (0, b)), (2, (0, k9)), (3, (0, v)), (4, (0, ((i + 1 : Nat) : Int)))] (And.intro (And.intro rfl (And.intro rfl (And.intro rfl (And.intro rfl (And.intro rfl trivial))))) (And.intro rfl (And.intro rfl (Exists.intro (i + 1) (Exists.intro (v) (And.intro rfl (And.intro ev (And.intro (by omega) (by omega)))))))))))))
      · have c1 : k9 < r_h (S'.2 1) i 4 := c1
        have ev : v = r_fb (S'.2 1) b k9 (i + 1) := by
          rw [r_fb_s, ← hv]
          split
          · rename_i q
            exfalso
            have := q.1.1.2; omega
          · rfl
        exact ce0 (And.intro bi (Exists.intro (k - 1) (And.intro (by omega) (Exists.intro [(0, (4, 0)), (1, (0, b)), (2, (0, k9)), (3, (0, v)), (4, (0, ((i + 1 : Nat) : Int)))] (And.intro (And.intro rfl (And.intro rfl (And.intro rfl (And.intro rfl (And.intro rfl trivial))))) (And.intro rfl (And.intro rfl (Exists.intro (i + 1) (Exists.intro (v) (And.intro rfl (And.intro ev (And.intro (by omega) (by omega)))))))))))))
      · have c2 : r_h (S'.2 1) i 3 = r_b (S'.2 1) b 1 := c2
        have ev : v = r_fb (S'.2 1) b k9 (i + 1) := by
          rw [r_fb_s, ← hv]
          split
          · rename_i q
            exfalso
            exact q.1.2 c2
          · rfl
        exact ce0 (And.intro bi (Exists.intro (k - 1) (And.intro (by omega) (Exists.intro [(0, (4, 0)), (1, (0, b)), (2, (0, k9)), (3, (0, v)), (4, (0, ((i + 1 : Nat) : Int)))] (And.intro (And.intro rfl (And.intro rfl (And.intro rfl (And.intro rfl (And.intro rfl trivial))))) (And.intro rfl (And.intro rfl (Exists.intro (i + 1) (Exists.intro (v) (And.intro rfl (And.intro ev (And.intro (by omega) (by omega)))))))))))))
      · have c3 : v = -1 := c3
        have c1 : ¬ k9 < r_h (S'.2 1) i 4 := c1
        have ev : (i : Int) = r_fb (S'.2 1) b k9 (i + 1) := by
          rw [r_fb_s, ← hv]
          split
          · rfl
          · rename_i q
            exact (q ⟨⟨⟨e0.trans c0, by omega⟩, c2⟩, Or.inl c3⟩).elim
        exact (And.intro bi (Exists.intro (k - 1) (And.intro (by omega) (Exists.intro [(0, (4, 0)), (1, (0, b)), (2, (0, k9)), (3, (0, (i : Int))), (4, (0, ((i + 1 : Nat) : Int)))] (And.intro (And.intro rfl (And.intro rfl (And.intro rfl (And.intro rfl (And.intro rfl trivial))))) (And.intro rfl (And.intro rfl (Exists.intro (i + 1) (Exists.intro ((i : Int)) (And.intro rfl (And.intro ev (And.intro (by omega) (by omega)))))))))))))
      have c3 : ¬ v = -1 := c3
      have c1 : ¬ k9 < r_h (S'.2 1) i 4 := c1
      refine And.intro (by show -2147483648 ≤ 2528 + 5 * (i : Int) + 2 ∧ 2528 + 5 * (i : Int) + 2 ≤ 2147483647; omega) (And.intro (by show 0 ≤ 2528 + 5 * (i : Int) + 2 ∧ 2528 + 5 * (i : Int) + 2 < (23016 : Nat); omega) (And.intro (by show -2147483648 ≤ 5 * v ∧ 5 * v ≤ 2147483647; omega) (And.intro (by show -2147483648 ≤ 2528 + 5 * v ∧ 2528 + 5 * v ≤ 2147483647; omega) (And.intro (by show -2147483648 ≤ 2528 + 5 * v + 2 ∧ 2528 + 5 * v + 2 ≤ 2147483647; omega) (And.intro (by show 0 ≤ 2528 + 5 * v + 2 ∧ 2528 + 5 * v + 2 < (23016 : Nat); omega) (And.intro (fun c4 => ?_) (fun c4 => ?_)))))))
      · have c4 : r_h (S'.2 1) v 2 ≤ r_h (S'.2 1) i 2 := c4
        have ev : v = r_fb (S'.2 1) b k9 (i + 1) := by
          rw [r_fb_s, ← hv]
          split
          · rename_i q
            exfalso
            have := q.2; omega
          · rfl
        exact (And.intro bi (Exists.intro (k - 1) (And.intro (by omega) (Exists.intro [(0, (4, 0)), (1, (0, b)), (2, (0, k9)), (3, (0, v)), (4, (0, ((i + 1 : Nat) : Int)))] (And.intro (And.intro rfl (And.intro rfl (And.intro rfl (And.intro rfl (And.intro rfl trivial))))) (And.intro rfl (And.intro rfl (Exists.intro (i + 1) (Exists.intro (v) (And.intro rfl (And.intro ev (And.intro (by omega) (by omega)))))))))))))
      · have c4 : ¬ r_h (S'.2 1) v 2 ≤ r_h (S'.2 1) i 2 := c4
        have ev : (i : Int) = r_fb (S'.2 1) b k9 (i + 1) := by
          rw [r_fb_s, ← hv]
          split
          · rfl
          · rename_i q
            exact (q ⟨⟨⟨e0.trans c0, by omega⟩, c2⟩, Or.inr (by omega)⟩).elim
        exact (And.intro bi (Exists.intro (k - 1) (And.intro (by omega) (Exists.intro [(0, (4, 0)), (1, (0, b)), (2, (0, k9)), (3, (0, (i : Int))), (4, (0, ((i + 1 : Nat) : Int)))] (And.intro (And.intro rfl (And.intro rfl (And.intro rfl (And.intro rfl (And.intro rfl trivial))))) (And.intro rfl (And.intro rfl (Exists.intro (i + 1) (Exists.intro ((i : Int)) (And.intro rfl (And.intro ev (And.intro (by omega) (by omega)))))))))))))
  · cases h
theorem c_aheadOf : hs_C hs_sh 27 t_aheadOf := by
  refine hs_met (nL := 8) (n0 := 60) (n := 160) [] [14] e_r (by decide +kernel) rfl rfl ?_
  intro as S post h
  unfold t_aheadOf at h
  split at h
  · rename_i z t k9
    obtain ⟨rfl, ht, h5, p⟩ := h
    refine ⟨Nat.le_of_ble_eq_true rfl, fun hh k g st S' => st = [] ∧ S' = S ∧ ∃ (i : Nat) (v : Int), g = [(0, (4, 0)), (1, (0, t)), (2, (0, k9)), (3, (0, 2528 + 5 * t)), (4, (0, v)), (5, (0, (i : Int)))] ∧ v = r_ah (S.2 1) t k9 i ∧ (i : Int) ≤ S.2 1 5 ∧ S.2 1 5 - i ≤ (k : Int), ?_, ?_⟩
    · exact And.intro (by show -2147483648 ≤ 5 * t ∧ 5 * t ≤ 2147483647; omega) (And.intro (by show -2147483648 ≤ 2528 + 5 * t ∧ 2528 + 5 * t ≤ 2147483647; omega) (Exists.intro 1000 (Exists.intro [(0, (4, 0)), (1, (0, t)), (2, (0, k9)), (3, (0, 2528 + 5 * t)), (4, (0, -1)), (5, (0, ((0 : Nat) : Int)))] (And.intro (And.intro rfl (And.intro rfl (And.intro rfl (And.intro rfl (And.intro rfl (And.intro rfl trivial)))))) (And.intro rfl (And.intro rfl (Exists.intro 0 (Exists.intro (-1) (And.intro rfl (And.intro rfl (And.intro (by omega) (by omega))))))))))))
    · intro hh hm
      simp only [List.mem_cons, List.not_mem_nil, or_false] at hm
      subst hm
      intro k g st S' hI
      obtain ⟨rfl, rfl, i, v, rfl, hv, hi, hk⟩ := hI
      refine And.intro ⟨by decide, by decide⟩ (And.intro (fun g1 => ?_) (fun g1 => ?_))
      · have g1 : S'.2 1 5 ≤ (i : Int) := g1
        have e : (S'.2 1 5).toNat = i := by omega
        rw [e, ← hv] at p
        exact p
      have g1 : ¬ S'.2 1 5 ≤ (i : Int) := g1
      have bi : -2147483648 ≤ (i : Int) + 1 ∧ (i : Int) + 1 ≤ 2147483647 := by omega
      have e0 : r_h (S'.2 1) i 0 = S'.2 1 (2528 + 5 * (i : Int)).toNat := by
        unfold r_h
        rw [Int.add_zero]
      have vb := r_ah_b (R := S'.2 1) (t := t) (k := k9) i
      rw [← hv] at vb
      have et : r_h (S'.2 1) t 0 = S'.2 1 (2528 + 5 * t).toNat := by
        unfold r_h
        rw [Int.add_zero]
      refine And.intro (by show -2147483648 ≤ 5 * (i : Int) ∧ 5 * (i : Int) ≤ 2147483647; omega) (And.intro (by show -2147483648 ≤ 2528 + 5 * (i : Int) ∧ 2528 + 5 * (i : Int) ≤ 2147483647; omega) (And.intro (by show 0 ≤ 2528 + 5 * (i : Int) ∧ 2528 + 5 * (i : Int) < (23016 : Nat); omega) (And.intro (by show 0 ≤ 2528 + 5 * t ∧ 2528 + 5 * t < (23016 : Nat); omega) (And.intro (fun c0 => ?_) (fun c0 => And.intro (by show -2147483648 ≤ 2528 + 5 * (i : Int) + 4 ∧ 2528 + 5 * (i : Int) + 4 ≤ 2147483647; omega) (And.intro (by show 0 ≤ 2528 + 5 * (i : Int) + 4 ∧ 2528 + 5 * (i : Int) + 4 < (23016 : Nat); omega) (And.intro (fun c1 => ?_) (fun c1 => And.intro (by show -2147483648 ≤ 2528 + 5 * (i : Int) + 2 ∧ 2528 + 5 * (i : Int) + 2 ≤ 2147483647; omega) (And.intro (by show 0 ≤ 2528 + 5 * (i : Int) + 2 ∧ 2528 + 5 * (i : Int) + 2 < (23016 : Nat); omega) (And.intro (by show -2147483648 ≤ 2528 + 5 * t + 2 ∧ 2528 + 5 * t + 2 ≤ 2147483647; omega) (And.intro (by show 0 ≤ 2528 + 5 * t + 2 ∧ 2528 + 5 * t + 2 < (23016 : Nat); omega) (And.intro (fun c2 => ce1 ?_) (fun c2 => And.intro (by show -2147483648 ≤ 2528 + 5 * (i : Int) + 2 ∧ 2528 + 5 * (i : Int) + 2 ≤ 2147483647; omega) (And.intro (by show 0 ≤ 2528 + 5 * (i : Int) + 2 ∧ 2528 + 5 * (i : Int) + 2 < (23016 : Nat); omega) (And.intro (by show -2147483648 ≤ 2528 + 5 * t + 2 ∧ 2528 + 5 * t + 2 ≤ 2147483647; omega) (And.intro (by show 0 ≤ 2528 + 5 * t + 2 ∧ 2528 + 5 * t + 2 < (23016 : Nat); omega) (And.intro (fun c3 => ?_) (fun c3 => And.intro (fun c4 => ?_) (fun c4 => ce1 ?_)))))))))))))))))))
      · have c0 : ¬ S'.2 1 (2528 + 5 * (i : Int)).toNat = S'.2 1 (2528 + 5 * t).toNat := c0
        have ev : v = r_ah (S'.2 1) t k9 (i + 1) := by
          rw [r_ah_s, ← hv]
          split
          · rename_i q
            exfalso
            exact c0 ((e0.symm.trans q.1.1.1).trans et)
          · rfl
        exact ce0 (And.intro bi (Exists.intro (k - 1) (And.intro (by omega) (Exists.intro [(0, (4, 0)), (1, (0, t)), (2, (0, k9)), (3, (0, 2528 + 5 * t)), (4, (0, v)), (5, (0, ((i + 1 : Nat) : Int)))] (And.intro (And.intro rfl (And.intro rfl (And.intro rfl (And.intro rfl (And.intro rfl (And.intro rfl trivial)))))) (And.intro rfl (And.intro rfl (Exists.intro (i + 1) (Exists.intro (v) (And.intro rfl (And.intro ev (And.intro (by omega) (by omega)))))))))))))
      · have c1 : k9 < r_h (S'.2 1) i 4 := c1
        have ev : v = r_ah (S'.2 1) t k9 (i + 1) := by
          rw [r_ah_s, ← hv]
          split
          · rename_i q
            exfalso
            have := q.1.1.2; omega
          · rfl
        exact ce0 (And.intro bi (Exists.intro (k - 1) (And.intro (by omega) (Exists.intro [(0, (4, 0)), (1, (0, t)), (2, (0, k9)), (3, (0, 2528 + 5 * t)), (4, (0, v)), (5, (0, ((i + 1 : Nat) : Int)))] (And.intro (And.intro rfl (And.intro rfl (And.intro rfl (And.intro rfl (And.intro rfl (And.intro rfl trivial)))))) (And.intro rfl (And.intro rfl (Exists.intro (i + 1) (Exists.intro (v) (And.intro rfl (And.intro ev (And.intro (by omega) (by omega)))))))))))))
      · have c1 : ¬ k9 < r_h (S'.2 1) i 4 := c1
        have ia : r_ia (S'.2 1) i t := Or.inl c2
        refine And.intro (fun c5 => ?_) (fun c5 => ?_)
        · have c5 : v = -1 := c5
          have ev : (i : Int) = r_ah (S'.2 1) t k9 (i + 1) := by
            rw [r_ah_s, ← hv]
            split
            · rfl
            · rename_i q
              exact (q ⟨⟨⟨(e0.trans c0).trans et.symm, by omega⟩, ia⟩, Or.inl c5⟩).elim
          exact (And.intro bi (Exists.intro (k - 1) (And.intro (by omega) (Exists.intro [(0, (4, 0)), (1, (0, t)), (2, (0, k9)), (3, (0, 2528 + 5 * t)), (4, (0, (i : Int))), (5, (0, ((i + 1 : Nat) : Int)))] (And.intro (And.intro rfl (And.intro rfl (And.intro rfl (And.intro rfl (And.intro rfl (And.intro rfl trivial)))))) (And.intro rfl (And.intro rfl (Exists.intro (i + 1) (Exists.intro ((i : Int)) (And.intro rfl (And.intro ev (And.intro (by omega) (by omega)))))))))))))
        have c5 : ¬ v = -1 := c5
        refine And.intro (by show -2147483648 ≤ 2528 + 5 * (i : Int) + 2 ∧ 2528 + 5 * (i : Int) + 2 ≤ 2147483647; omega) (And.intro (by show 0 ≤ 2528 + 5 * (i : Int) + 2 ∧ 2528 + 5 * (i : Int) + 2 < (23016 : Nat); omega) (And.intro (by show -2147483648 ≤ 5 * v ∧ 5 * v ≤ 2147483647; omega) (And.intro (by show -2147483648 ≤ 2528 + 5 * v ∧ 2528 + 5 * v ≤ 2147483647; omega) (And.intro (by show -2147483648 ≤ 2528 + 5 * v + 2 ∧ 2528 + 5 * v + 2 ≤ 2147483647; omega) (And.intro (by show 0 ≤ 2528 + 5 * v + 2 ∧ 2528 + 5 * v + 2 < (23016 : Nat); omega) (And.intro (fun c6 => ?_) (fun c6 => ?_)))))))
        · have c6 : r_h (S'.2 1) i 2 < r_h (S'.2 1) v 2 := c6
          have ev : v = r_ah (S'.2 1) t k9 (i + 1) := by
            rw [r_ah_s, ← hv]
            split
            · rename_i q
              exfalso
              have := q.2; omega
            · rfl
          exact (And.intro bi (Exists.intro (k - 1) (And.intro (by omega) (Exists.intro [(0, (4, 0)), (1, (0, t)), (2, (0, k9)), (3, (0, 2528 + 5 * t)), (4, (0, v)), (5, (0, ((i + 1 : Nat) : Int)))] (And.intro (And.intro rfl (And.intro rfl (And.intro rfl (And.intro rfl (And.intro rfl (And.intro rfl trivial)))))) (And.intro rfl (And.intro rfl (Exists.intro (i + 1) (Exists.intro (v) (And.intro rfl (And.intro ev (And.intro (by omega) (by omega)))))))))))))
        · have c6 : ¬ r_h (S'.2 1) i 2 < r_h (S'.2 1) v 2 := c6
          have ev : (i : Int) = r_ah (S'.2 1) t k9 (i + 1) := by
            rw [r_ah_s, ← hv]
            split
            · rfl
            · rename_i q
              exact (q ⟨⟨⟨(e0.trans c0).trans et.symm, by omega⟩, ia⟩, Or.inr (by omega)⟩).elim
          exact (And.intro bi (Exists.intro (k - 1) (And.intro (by omega) (Exists.intro [(0, (4, 0)), (1, (0, t)), (2, (0, k9)), (3, (0, 2528 + 5 * t)), (4, (0, (i : Int))), (5, (0, ((i + 1 : Nat) : Int)))] (And.intro (And.intro rfl (And.intro rfl (And.intro rfl (And.intro rfl (And.intro rfl (And.intro rfl trivial)))))) (And.intro rfl (And.intro rfl (Exists.intro (i + 1) (Exists.intro ((i : Int)) (And.intro rfl (And.intro ev (And.intro (by omega) (by omega)))))))))))))
      · have c3 : ¬ r_h (S'.2 1) i 2 = r_h (S'.2 1) t 2 := c3
        have c2 : ¬ r_h (S'.2 1) i 2 < r_h (S'.2 1) t 2 := c2
        have ev : v = r_ah (S'.2 1) t k9 (i + 1) := by
          rw [r_ah_s, ← hv]
          split
          · rename_i q
            exfalso
            have q2 := q.1.2
            unfold r_ia at q2
            omega
          · rfl
        exact ce0 (And.intro bi (Exists.intro (k - 1) (And.intro (by omega) (Exists.intro [(0, (4, 0)), (1, (0, t)), (2, (0, k9)), (3, (0, 2528 + 5 * t)), (4, (0, v)), (5, (0, ((i + 1 : Nat) : Int)))] (And.intro (And.intro rfl (And.intro rfl (And.intro rfl (And.intro rfl (And.intro rfl (And.intro rfl trivial)))))) (And.intro rfl (And.intro rfl (Exists.intro (i + 1) (Exists.intro (v) (And.intro rfl (And.intro ev (And.intro (by omega) (by omega)))))))))))))
      · have c4 : t ≤ (i : Int) := c4
        have c2 : ¬ r_h (S'.2 1) i 2 < r_h (S'.2 1) t 2 := c2
        have ev : v = r_ah (S'.2 1) t k9 (i + 1) := by
          rw [r_ah_s, ← hv]
          split
          · rename_i q
            exfalso
            have q2 := q.1.2
            unfold r_ia at q2
            omega
          · rfl
        exact ce0 (And.intro bi (Exists.intro (k - 1) (And.intro (by omega) (Exists.intro [(0, (4, 0)), (1, (0, t)), (2, (0, k9)), (3, (0, 2528 + 5 * t)), (4, (0, v)), (5, (0, ((i + 1 : Nat) : Int)))] (And.intro (And.intro rfl (And.intro rfl (And.intro rfl (And.intro rfl (And.intro rfl (And.intro rfl trivial)))))) (And.intro rfl (And.intro rfl (Exists.intro (i + 1) (Exists.intro (v) (And.intro rfl (And.intro ev (And.intro (by omega) (by omega)))))))))))))
      · have c1 : ¬ k9 < r_h (S'.2 1) i 4 := c1
        have ia : r_ia (S'.2 1) i t := Or.inr ⟨c3, by have c4 : ¬ t ≤ (i : Int) := c4; omega⟩
        refine And.intro (fun c5 => ?_) (fun c5 => ?_)
        · have c5 : v = -1 := c5
          have ev : (i : Int) = r_ah (S'.2 1) t k9 (i + 1) := by
            rw [r_ah_s, ← hv]
            split
            · rfl
            · rename_i q
              exact (q ⟨⟨⟨(e0.trans c0).trans et.symm, by omega⟩, ia⟩, Or.inl c5⟩).elim
          exact (And.intro bi (Exists.intro (k - 1) (And.intro (by omega) (Exists.intro [(0, (4, 0)), (1, (0, t)), (2, (0, k9)), (3, (0, 2528 + 5 * t)), (4, (0, (i : Int))), (5, (0, ((i + 1 : Nat) : Int)))] (And.intro (And.intro rfl (And.intro rfl (And.intro rfl (And.intro rfl (And.intro rfl (And.intro rfl trivial)))))) (And.intro rfl (And.intro rfl (Exists.intro (i + 1) (Exists.intro ((i : Int)) (And.intro rfl (And.intro ev (And.intro (by omega) (by omega)))))))))))))
        have c5 : ¬ v = -1 := c5
        refine And.intro (by show -2147483648 ≤ 2528 + 5 * (i : Int) + 2 ∧ 2528 + 5 * (i : Int) + 2 ≤ 2147483647; omega) (And.intro (by show 0 ≤ 2528 + 5 * (i : Int) + 2 ∧ 2528 + 5 * (i : Int) + 2 < (23016 : Nat); omega) (And.intro (by show -2147483648 ≤ 5 * v ∧ 5 * v ≤ 2147483647; omega) (And.intro (by show -2147483648 ≤ 2528 + 5 * v ∧ 2528 + 5 * v ≤ 2147483647; omega) (And.intro (by show -2147483648 ≤ 2528 + 5 * v + 2 ∧ 2528 + 5 * v + 2 ≤ 2147483647; omega) (And.intro (by show 0 ≤ 2528 + 5 * v + 2 ∧ 2528 + 5 * v + 2 < (23016 : Nat); omega) (And.intro (fun c6 => ?_) (fun c6 => ?_)))))))
        · have c6 : r_h (S'.2 1) i 2 < r_h (S'.2 1) v 2 := c6
          have ev : v = r_ah (S'.2 1) t k9 (i + 1) := by
            rw [r_ah_s, ← hv]
            split
            · rename_i q
              exfalso
              have := q.2; omega
            · rfl
          exact (And.intro bi (Exists.intro (k - 1) (And.intro (by omega) (Exists.intro [(0, (4, 0)), (1, (0, t)), (2, (0, k9)), (3, (0, 2528 + 5 * t)), (4, (0, v)), (5, (0, ((i + 1 : Nat) : Int)))] (And.intro (And.intro rfl (And.intro rfl (And.intro rfl (And.intro rfl (And.intro rfl (And.intro rfl trivial)))))) (And.intro rfl (And.intro rfl (Exists.intro (i + 1) (Exists.intro (v) (And.intro rfl (And.intro ev (And.intro (by omega) (by omega)))))))))))))
        · have c6 : ¬ r_h (S'.2 1) i 2 < r_h (S'.2 1) v 2 := c6
          have ev : (i : Int) = r_ah (S'.2 1) t k9 (i + 1) := by
            rw [r_ah_s, ← hv]
            split
            · rfl
            · rename_i q
              exact (q ⟨⟨⟨(e0.trans c0).trans et.symm, by omega⟩, ia⟩, Or.inr (by omega)⟩).elim
          exact (And.intro bi (Exists.intro (k - 1) (And.intro (by omega) (Exists.intro [(0, (4, 0)), (1, (0, t)), (2, (0, k9)), (3, (0, 2528 + 5 * t)), (4, (0, (i : Int))), (5, (0, ((i + 1 : Nat) : Int)))] (And.intro (And.intro rfl (And.intro rfl (And.intro rfl (And.intro rfl (And.intro rfl (And.intro rfl trivial)))))) (And.intro rfl (And.intro rfl (Exists.intro (i + 1) (Exists.intro ((i : Int)) (And.intro rfl (And.intro ev (And.intro (by omega) (by omega)))))))))))))
  · cases h
def E_q : hs_E := hs_ad (hs_ad (hs_ad E_r 40 t_boothOf) 44 t_brokenOf) 27 t_aheadOf
theorem e_q : ∀ K, hs_C hs_sh K (E_q K) := hs_ad_ok (hs_ad_ok (hs_ad_ok e_r c_boothOf) c_brokenOf) c_aheadOf
end Z24

/-! ===== the reference's broken, sums, seal, by hand (by wip/gen/mkhr4.py) ===== -/
def t_broken : hs_T := fun as S post => match as with
  | [(4, z), (0, b), (0, k), (0, w)] => z = 0 ∧ (0 ≤ S.2 1 4 ∧ S.2 1 4 ≤ 40) ∧ (0 ≤ S.2 1 5 ∧ S.2 1 5 ≤ 200) ∧ (¬ ((0 ≤ b ∧ b < S.2 1 4) ∧ (0 ≤ k ∧ k ≤ 399) ∧ 0 ≤ w ∧ w ≤ 2) → post [(0, -1)] (hs_up S.1 0 0, S.2)) ∧ (((0 ≤ b ∧ b < S.2 1 4) ∧ (0 ≤ k ∧ k ≤ 399) ∧ 0 ≤ w ∧ w ≤ 2) → r_fb (S.2 1) b k (S.2 1 5).toNat = -1 → post [(0, -1)] (hs_up S.1 0 0, S.2)) ∧ (((0 ≤ b ∧ b < S.2 1 4) ∧ (0 ≤ k ∧ k ≤ 399) ∧ 0 ≤ w ∧ w ≤ 2) → ¬ r_fb (S.2 1) b k (S.2 1 5).toNat = -1 → w = 1 → r_ah (S.2 1) (r_fb (S.2 1) b k (S.2 1 5).toNat) k (S.2 1 5).toNat = -1 → post [(0, -1)] (hs_up S.1 0 0, S.2)) ∧ (((0 ≤ b ∧ b < S.2 1 4) ∧ (0 ≤ k ∧ k ≤ 399) ∧ 0 ≤ w ∧ w ≤ 2) → ¬ r_fb (S.2 1) b k (S.2 1 5).toNat = -1 → w = 1 → ¬ r_ah (S.2 1) (r_fb (S.2 1) b k (S.2 1 5).toNat) k (S.2 1 5).toNat = -1 → post [(0, r_h (S.2 1) (r_ah (S.2 1) (r_fb (S.2 1) b k (S.2 1 5).toNat) k (S.2 1 5).toNat) 1)] (hs_up S.1 0 0, S.2)) ∧ (((0 ≤ b ∧ b < S.2 1 4) ∧ (0 ≤ k ∧ k ≤ 399) ∧ 0 ≤ w ∧ w ≤ 2) → ¬ r_fb (S.2 1) b k (S.2 1 5).toNat = -1 → w = 0 → post [(0, r_h (S.2 1) (r_fb (S.2 1) b k (S.2 1 5).toNat) 1)] (hs_up S.1 0 0, S.2)) ∧ (((0 ≤ b ∧ b < S.2 1 4) ∧ (0 ≤ k ∧ k ≤ 399) ∧ 0 ≤ w ∧ w ≤ 2) → ¬ r_fb (S.2 1) b k (S.2 1 5).toNat = -1 → ¬ w = 1 → ¬ w = 0 → post [(0, r_h (S.2 1) (r_fb (S.2 1) b k (S.2 1 5).toNat) 2)] (hs_up S.1 0 0, S.2))
  | _ => False
def r_cok (S : hs_S) : Prop := (0 ≤ S.2 1 6 ∧ S.2 1 6 ≤ 200) ∧ ∀ i : Nat, (i : Int) < S.2 1 6 → (0 ≤ r_c (S.2 1) i 0 ∧ r_c (S.2 1) i 0 ≤ 39) ∧ -1 ≤ r_c (S.2 1) i 3 ∧ r_c (S.2 1) i 3 ≤ 16383
def t_addBooth : hs_T := fun as S post => match as with
  | [(4, z), (0, b)] => z = 0 ∧ hs_o (r_cok S) ∧ ∀ F, F 59 = r_tf (S.2 1) b (S.2 1 6).toNat → F 60 = r_su (S.2 1) b 0 (S.2 1 6).toNat → F 61 = r_su (S.2 1) b 1 (S.2 1 6).toNat → hs_fr [59, 60, 61] S.1 F → post [] (F, S.2)
  | _ => False
def t_seal : hs_T := fun as S post => match as with
  | [(4, z), (0, b)] => z = 0 ∧ (0 ≤ S.2 1 3 ∧ S.2 1 3 ≤ 20) ∧ hs_o (r_cok S) ∧ (¬ (0 ≤ b ∧ b < S.2 1 3) → ∀ w, post [(0, -2)] (t_st S w, S.2)) ∧ ((0 ≤ b ∧ b < S.2 1 3) → ∀ F r m v2 v3, r = m → m = r_tf (S.2 1) b (S.2 1 6).toNat → v2 = r_su (S.2 1) b 0 (S.2 1 6).toNat → v3 = r_su (S.2 1) b 1 (S.2 1 6).toNat → hs_fr [0, 1, 59, 60, 61] S.1 F → post [(0, r)] (F, hs_ua (hs_ua (hs_ua (hs_ua S.2 1 (2368 + 4 * b).toNat 1) 1 (2368 + 4 * b + 1).toNat m) 1 (2368 + 4 * b + 2).toNat v2) 1 (2368 + 4 * b + 3).toNat v3))
  | _ => False
section Z24
theorem c_broken : hs_C hs_sh 43 t_broken := by
  refine hs_met0 (nL := 6) (n0 := 120) [] e_q (by decide +kernel) rfl rfl ?_
  intro as S post h
  unfold t_broken at h
  split at h
  · rename_i z b k w
    obtain ⟨rfl, h4, h5, q1, q2, q3, q4, q5, q6⟩ := h
    refine ⟨Nat.le_of_ble_eq_true rfl, ?_⟩
    refine And.intro rfl (And.intro h4 (And.intro (fun a0 b0 => ce1 ?_) (fun a0 => ce0 ?_)))
    rotate_left
    · exact q1 (fun q => a0 q.1)
    refine And.intro (fun a1 b1 => ce1 ?_) (fun a1 => ce0 ?_)
    rotate_left
    · exact q1 (fun q => a1 q.2.1)
    refine And.intro (fun a2 b2 => cn1 ?_) (fun a2 => cn0 ?_)
    rotate_left
    · exact q1 (fun q => a2 q.2.2)
    have hok : ((0 ≤ b ∧ b < S.2 1 4) ∧ (0 ≤ k ∧ k ≤ 399) ∧ 0 ≤ w ∧ w ≤ 2) := ⟨⟨a0, b0⟩, ⟨a1, b1⟩, a2, b2⟩
    have b0 : b < S.2 1 4 := b0
    have vb := r_fb_b (R := S.2 1) (b := b) (k := k) (S.2 1 5).toNat
    have va := r_ah_b (R := S.2 1) (t := r_fb (S.2 1) b k (S.2 1 5).toNat) (k := k) (S.2 1 5).toNat
    generalize hf : r_fb (S.2 1) b k (S.2 1 5).toNat = f at *
    generalize ha : r_ah (S.2 1) f k (S.2 1 5).toNat = a at *
    refine And.intro rfl (And.intro ⟨a0, by omega⟩ (And.intro h5 ?_))
    show (¬ r_fb (S.2 1) b k (S.2 1 5).toNat = -1 → _) ∧ (r_fb (S.2 1) b k (S.2 1 5).toNat = -1 → _)
    rw [hf]
    refine And.intro (fun g => And.intro (fun g2 => ?_) (fun g2 => ?_)) (fun g => q2 hok g)
    · refine And.intro (by show -2147483648 ≤ 5 * f ∧ 5 * f ≤ 2147483647; omega) (And.intro (by show -2147483648 ≤ 2528 + 5 * f ∧ 2528 + 5 * f ≤ 2147483647; omega) (And.intro (fun g3 => ?_) (fun g3 => ?_)))
      · exact And.intro (by show -2147483648 ≤ 2528 + 5 * f + 2 ∧ 2528 + 5 * f + 2 ≤ 2147483647; omega) (And.intro (by show 0 ≤ 2528 + 5 * f + 2 ∧ 2528 + 5 * f + 2 < (23016 : Nat); omega) (q6 hok g g2 g3))
      · exact And.intro (by show -2147483648 ≤ 2528 + 5 * f + 1 ∧ 2528 + 5 * f + 1 ≤ 2147483647; omega) (And.intro (by show 0 ≤ 2528 + 5 * f + 1 ∧ 2528 + 5 * f + 1 < (23016 : Nat); omega) (q5 hok g g3))
    · refine And.intro rfl (And.intro ⟨by omega, by omega⟩ (And.intro h5 ?_))
      show (¬ r_ah (S.2 1) f k (S.2 1 5).toNat = -1 → _) ∧ (r_ah (S.2 1) f k (S.2 1 5).toNat = -1 → _)
      rw [ha]
      refine And.intro (fun g3 => And.intro (by show -2147483648 ≤ 5 * a ∧ 5 * a ≤ 2147483647; omega) (And.intro (by show -2147483648 ≤ 2528 + 5 * a ∧ 2528 + 5 * a ≤ 2147483647; omega) (And.intro (by show -2147483648 ≤ 2528 + 5 * a + 1 ∧ 2528 + 5 * a + 1 ≤ 2147483647; omega) (And.intro (by show 0 ≤ 2528 + 5 * a + 1 ∧ 2528 + 5 * a + 1 < (23016 : Nat); omega) (q4 hok g g2 g3))))) (fun g3 => q3 hok g g2 g3)
  · cases h
theorem c_addBooth : hs_C hs_sh 23 t_addBooth := by
  refine hs_met (nL := 3) (n0 := 60) (n := 160) [] [17] e_q (by decide +kernel) rfl rfl ?_
  intro as S post h
  unfold t_addBooth at h
  split at h
  · rename_i z b
    obtain ⟨rfl, ⟨-, h6, hc⟩, p⟩ := h
    refine ⟨Nat.le_of_ble_eq_true rfl, fun hh k g st S' => st = [] ∧ ∃ (i : Nat) (F : Nat → Int), S' = (F, S.2) ∧ g = [(0, (4, 0)), (1, (0, b)), (2, (0, (i : Int)))] ∧ F 59 = r_tf (S.2 1) b i ∧ F 60 = r_su (S.2 1) b 0 i ∧ F 61 = r_su (S.2 1) b 1 i ∧ hs_fr [59, 60, 61] S.1 F ∧ (i : Int) ≤ S.2 1 6 ∧ S.2 1 6 - i ≤ (k : Int), ?_, ?_⟩
    · exact Exists.intro 1000 (Exists.intro [(0, (4, 0)), (1, (0, b)), (2, (0, ((0 : Nat) : Int)))] (And.intro (And.intro rfl (And.intro rfl (And.intro rfl trivial))) (And.intro rfl (Exists.intro 0 (Exists.intro (hs_up (hs_up (hs_up S.1 59 0) 60 0) 61 0) (And.intro rfl (And.intro rfl (And.intro rfl (And.intro rfl (And.intro rfl (And.intro (hs_fr.up rfl (hs_fr.up rfl (hs_fr.up rfl hs_fr.rf))) (And.intro (by omega) (by omega)))))))))))))
    · intro hh hm
      simp only [List.mem_cons, List.not_mem_nil, or_false] at hm
      subst hm
      intro k g st S' hI
      obtain ⟨rfl, i, F, rfl, rfl, f59, f60, f61, hF, hi, hk⟩ := hI
      refine And.intro ⟨by decide, by decide⟩ (And.intro (fun g1 => ?_) (fun g1 => ?_))
      · have g1 : S.2 1 6 ≤ (i : Int) := g1
        have e : (S.2 1 6).toNat = i := by omega
        rw [e] at p
        exact p F f59 f60 f61 hF
      have g1 : ¬ S.2 1 6 ≤ (i : Int) := g1
      have bi : -2147483648 ≤ (i : Int) + 1 ∧ (i : Int) + 1 ≤ 2147483647 := by omega
      obtain ⟨c0, c3⟩ := hc i (by omega)
      have tb := r_tf_b (R := S.2 1) (b := b) i
      have sb0 := r_su_b (R := S.2 1) (b := b) (w := 0) (m := (S.2 1 6).toNat) (fun j hj => (hc j (by omega)).2) (by omega) i (by omega)
      have sb1 := r_su_b (R := S.2 1) (b := b) (w := 1) (m := (S.2 1 6).toNat) (fun j hj => (hc j (by omega)).2) (by omega) i (by omega)
      rw [← f59] at tb
      rw [← f60] at sb0
      rw [← f61] at sb1
      refine And.intro rfl (And.intro ⟨by omega, by omega⟩ (And.intro c0 (And.intro (fun g2 => ?_) (fun g2 => ?_))))
      · have e1 : F 59 = r_tf (S.2 1) b (i + 1) := by
          rw [r_tf_s, if_neg g2]; exact f59
        have e2 : F 60 = r_su (S.2 1) b 0 (i + 1) := by
          rw [r_su_s, if_neg g2]; exact f60
        have e3 : F 61 = r_su (S.2 1) b 1 (i + 1) := by
          rw [r_su_s, if_neg g2]; exact f61
        exact And.intro bi (Exists.intro (k - 1) (And.intro (by omega) (Exists.intro [(0, (4, 0)), (1, (0, b)), (2, (0, ((i + 1 : Nat) : Int)))] (And.intro (And.intro rfl (And.intro rfl (And.intro rfl trivial))) (And.intro rfl (Exists.intro (i + 1) (Exists.intro F (And.intro rfl (And.intro rfl (And.intro e1 (And.intro e2 (And.intro e3 (And.intro hF (And.intro (by omega) (by omega)))))))))))))))
      have mb := su_m c3 (y := F 59 + 1) (by omega)
      have n0 : -2147483648 ≤ F 59 + 1 ∧ F 59 + 1 ≤ 2147483647 := by omega
      have n1 : -2147483648 ≤ 5 * (i : Int) ∧ 5 * (i : Int) ≤ 2147483647 := by omega
      have n2 : -2147483648 ≤ 4008 + 5 * (i : Int) ∧ 4008 + 5 * (i : Int) ≤ 2147483647 := by omega
      have n3 : -2147483648 ≤ 4008 + 5 * (i : Int) + 3 ∧ 4008 + 5 * (i : Int) + 3 ≤ 2147483647 := by omega
      have n4 : 0 ≤ 4008 + 5 * (i : Int) + 3 ∧ 4008 + 5 * (i : Int) + 3 < (23016 : Nat) := by omega
      refine And.intro n0 (And.intro n1 (And.intro n2 (And.intro n3 (And.intro n4 (fun z1 hz1 => And.intro n1 (And.intro n2 (And.intro n3 (And.intro n4 (fun z2 hz2 z3 hz3 => And.intro bi ?_)))))))))
      have hz1 : z1 = F 60 + r_c (S.2 1) i 3 := hz1 (by show -9223372036854775808 ≤ F 60 + r_c (S.2 1) i 3; omega) (by show F 60 + r_c (S.2 1) i 3 ≤ 9223372036854775807; omega)
      have hz2 : z2 = r_c (S.2 1) i 3 * (F 59 + 1) := hz2 (by show -9223372036854775808 ≤ r_c (S.2 1) i 3 * (F 59 + 1); omega) (by show r_c (S.2 1) i 3 * (F 59 + 1) ≤ 9223372036854775807; omega)
      rw [← hz2] at mb
      have hz3 : z3 = F 61 + z2 := hz3 (by show -9223372036854775808 ≤ F 61 + z2; omega) (by show F 61 + z2 ≤ 9223372036854775807; omega)
      have e1 : F 59 + 1 = r_tf (S.2 1) b (i + 1) := by
        rw [r_tf_s, if_pos g2, f59]
      have e2 : z1 = r_su (S.2 1) b 0 (i + 1) := by
        rw [r_su_s, if_pos g2, if_pos rfl, hz1, f60, Int.mul_one]
      have e3 : z3 = r_su (S.2 1) b 1 (i + 1) := by
        rw [r_su_s, if_pos g2, if_neg (by decide), hz3, hz2, f61, f59]
      exact Exists.intro (k - 1) (And.intro (by omega) (Exists.intro [(0, (4, 0)), (1, (0, b)), (2, (0, ((i + 1 : Nat) : Int)))] (And.intro (And.intro rfl (And.intro rfl (And.intro rfl trivial))) (And.intro rfl (Exists.intro (i + 1) (Exists.intro (hs_up (hs_up (hs_up F 59 (F 59 + 1)) 60 z1) 61 z3) (And.intro rfl (And.intro rfl (And.intro e1 (And.intro e2 (And.intro e3 (And.intro (hs_fr.up rfl (hs_fr.up rfl (hs_fr.up rfl hF))) (And.intro (by omega) (by omega))))))))))))))
  · cases h
def E_s : hs_E := hs_ad E_q 23 t_addBooth
theorem e_s : ∀ K, hs_C hs_sh K (E_s K) := hs_ad_ok e_q c_addBooth
theorem c_seal : hs_C hs_sh 133 t_seal := by
  refine hs_met0 (nL := 2) (n0 := 120) [] e_s (by decide +kernel) rfl rfl ?_
  intro as S post h
  unfold t_seal at h
  split at h
  · rename_i z b
    obtain ⟨rfl, h3, hc, q1, q2⟩ := h
    refine ⟨Nat.le_of_ble_eq_true rfl, ?_⟩
    refine And.intro rfl (And.intro h3 (And.intro (fun b1 b2 => cn1 ?_) (fun b1 => cn0 ?_)))
    rotate_left
    · exact ⟨rfl, fun w => q1 b1 w⟩
    have b2 : b < S.2 1 3 := b2
    have tb := r_tf_b (R := S.2 1) (b := b) (S.2 1 6).toNat
    obtain ⟨h6, hc2⟩ := hc.to
    have sb0 := r_su_b (R := S.2 1) (b := b) (w := 0) (m := (S.2 1 6).toNat) (fun j hj => (hc2 j (by omega)).2) (by omega) (S.2 1 6).toNat (Nat.le_refl _)
    have sb1 := r_su_b (R := S.2 1) (b := b) (w := 1) (m := (S.2 1 6).toNat) (fun j hj => (hc2 j (by omega)).2) (by omega) (S.2 1 6).toNat (Nat.le_refl _)
    refine And.intro rfl (And.intro hc (fun F f59 f60 f61 hF => And.intro (by show -2147483648 ≤ 4 * b ∧ 4 * b ≤ 2147483647; omega) (And.intro (by show -2147483648 ≤ 2368 + 4 * b ∧ 2368 + 4 * b ≤ 2147483647; omega) (fun z1 hz1 z2 hz2 => And.intro rfl (And.intro ?_ (And.intro rfl (fun w => ?_)))))))
    · show 0 ≤ 2368 + 4 * b ∧ 2368 + 4 * b < 23013
      omega
    have f59 : F 59 = r_tf (S.2 1) b (S.2 1 6).toNat := f59
    have f60 : F 60 = r_su (S.2 1) b 0 (S.2 1 6).toNat := f60
    have f61 : F 61 = r_su (S.2 1) b 1 (S.2 1 6).toNat := f61
    have hz1 : z1 = F 60 := hz1 (by show -2147483648 ≤ F 60; rw [f60]; omega) (by show F 60 ≤ 2147483647; rw [f60]; omega)
    have hz2 : z2 = F 61 := hz2 (by show -2147483648 ≤ F 61; rw [f61]; omega) (by show F 61 ≤ 2147483647; rw [f61]; omega)
    have hF2 : hs_fr [0, 1, 59, 60, 61] S.1 (hs_up F 1 w) := hs_fr.up rfl ((hs_fr.up (L := [0, 1, 59, 60, 61]) (i := 0) (v := 0) rfl hs_fr.rf).tr (hF.wk rfl))
    exact q2 ⟨b1, b2⟩ (hs_up F 1 w) (F 59) (F 59) z1 z2 rfl f59 (hz1.trans f60) (hz2.trans f61) hF2
  · cases h
end Z24

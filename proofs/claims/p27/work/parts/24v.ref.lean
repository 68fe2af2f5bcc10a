/-! ===== the reference: images ===== -/
theorem rt_seg_congr {op ar op' ar' : Nat → Int} {a b : Int} (h1 : ∀ k, k < 400 → op' k = op k) (h2 : ∀ k, k < 400 → ar' k = ar k) (h : rt_seg op ar a b) : rt_seg op' ar' a b := by
  obtain ⟨s1, s2, s3, d, s4, s5⟩ := h
  refine ⟨s1, s2, s3, d, s4, fun k ka kb => ?_⟩
  obtain ⟨g1, g2, g3⟩ := s5 k ka kb
  refine ⟨g1, g2, ?_⟩
  unfold rt_step at g3 ⊢
  rw [h1 k (by omega), h2 k (by omega)]
  exact g3
theorem rt_all_congr {F G : Nat → Int} (h : ∀ j, j < 17960 → G j = F j) (hF : rt_all F) : rt_all G := by
  intro t c ht hc hn
  rw [h _ (by omega)] at hn
  obtain ⟨q1, q2, q3, q4, q5, q6⟩ := hF t c ht hc hn
  have o1 : ∀ k, k < 400 → rt_op G t k = rt_op F t k := fun k hk => h _ (by omega)
  have o2 : ∀ k, k < 400 → rt_ar G t k = rt_ar F t k := fun k hk => h _ (by omega)
  unfold rt_cl
  rw [h (898 * t + 2 + 8 * c + 1) (by omega), h (898 * t + 2 + 8 * c + 2) (by omega), h (898 * t + 2 + 8 * c + 3) (by omega), h (898 * t + 2 + 8 * c + 4) (by omega), h (898 * t + 2 + 8 * c + 5) (by omega), h (898 * t + 2 + 8 * c + 6) (by omega)]
  exact ⟨q1, q2, q3, q4, rt_seg_congr o1 o2 q5, rt_seg_congr o1 o2 q6⟩
theorem ro_congr {R R' : Nat → Int} (H : ∀ j, j < 23016 → R' j = R j) (h : ro R) : ro R' := by
  obtain ⟨⟨a0, a1, a2, a3, a4, a5, a6, a7, a8, a9⟩, b, c, d, e, f, g⟩ := h
  refine ⟨⟨?_, ?_, ?_, ?_, ?_, ?_, ?_, ?_, ?_, ?_⟩, fun n hn => ?_, fun n hn => ?_, fun n hn => ?_, fun n hn => ?_, fun t ht => ?_, rt_all_congr (fun j hj => H _ (by omega)) g⟩
  · rw [H 0 (by decide)]; exact a0
  · rw [H 1 (by decide)]; exact a1
  · rw [H 2 (by decide)]; exact a2
  · rw [H 3 (by decide)]; exact a3
  · rw [H 4 (by decide)]; exact a4
  · rw [H 5 (by decide)]; exact a5
  · rw [H 6 (by decide)]; exact a6
  · rw [H 7 (by decide)]; exact a7
  · rw [H 8 (by decide)]; exact a8
  · rw [H 9 (by decide)]; exact a9
  · rw [H _ (by omega), H _ (by omega)]; exact b n hn
  · rw [H _ (by omega)]; exact c n hn
  · rw [H _ (by omega)]; exact d n hn
  · rw [H _ (by omega), H _ (by omega), H _ (by omega)]; exact e n hn
  · rw [H _ (by omega)]; exact f t ht
def E_b : hs_E := hs_ad E_1 148 t_told
theorem e_b : ∀ K, hs_C hs_sh2 K (E_b K) := hs_ad_ok e_1 c_told
/-- the row is copied into an image -/
def iv (S : hs_S) (i m : Int) (A : Nat → Nat → Int) : Prop := (∀ k, ¬ k = 2 → A k = S.2 k) ∧ (∀ j : Nat, (j : Int) < m → A 2 (23016 * i.toNat + j) = S.2 1 j) ∧ ∀ j, ¬ (23016 * i.toNat ≤ j ∧ j < 23016 * i.toNat + 23016) → A 2 j = S.2 2 j
theorem iv.put {S : hs_S} {i m : Int} {A : Nat → Nat → Int} (hi : 0 ≤ i) (hm : 0 ≤ m ∧ m < 23016) (h : iv S i m A) : iv S i (m + 1) (hs_ua A 2 (23016 * i + m).toNat (A 1 m.toNat)) := by
  obtain ⟨h1, h2, h3⟩ := h
  refine ⟨fun k hk => by rw [hs_ua_ne hk]; exact h1 k hk, fun j hj => ?_, fun j hj => ?_⟩
  · rw [hs_ua_k]
    by_cases e : j = m.toNat
    · rw [if_pos (by omega), h1 1 (by decide), e]
    · rw [if_neg (by omega)]; exact h2 j (by omega)
  · rw [hs_ua_k, if_neg (by omega)]; exact h3 j hj
def im (S : hs_S) (i : Int) (A : Nat → Nat → Int) : Prop := (∀ k, ¬ k = 2 → ¬ k = 3 → A k = S.2 k) ∧ (∀ j : Nat, j < 23016 → A 2 (23016 * i.toNat + j) = S.2 1 j) ∧ (∀ j, ¬ (23016 * i.toNat ≤ j ∧ j < 23016 * i.toNat + 23016) → A 2 j = S.2 2 j) ∧ A 3 i.toNat = 1 ∧ ∀ j, ¬ j = i.toNat → A 3 j = S.2 3 j
theorem im_of {S : hs_S} {i m : Int} {A : Nat → Nat → Int} (hm : 23016 ≤ m) (h : iv S i m A) : im S i (hs_ua A 3 i.toNat 1) := by
  obtain ⟨h1, h2, h3⟩ := h
  refine ⟨fun k e2 e3 => by rw [hs_ua_ne e3]; exact h1 k e2, fun j hj => ?_, fun j hj => ?_, by rw [hs_ua_k, if_pos rfl], fun j hj => ?_⟩
  · rw [hs_ua_ne (by decide)]; exact h2 j (by omega)
  · rw [hs_ua_ne (by decide)]; exact h3 j hj
  · rw [hs_ua_k, if_neg hj, h1 3 (by decide)]
def bv (S : hs_S) (i m : Int) (A : Nat → Nat → Int) : Prop := (∀ k, ¬ k = 1 → A k = S.2 k) ∧ (∀ j : Nat, (j : Int) < m → A 1 j = S.2 2 (23016 * i.toNat + j)) ∧ ∀ j : Nat, 23016 ≤ j → A 1 j = S.2 1 j
theorem bv.put {S : hs_S} {i m : Int} {A : Nat → Nat → Int} (hi : 0 ≤ i) (hm : 0 ≤ m ∧ m < 23016) (h : bv S i m A) : bv S i (m + 1) (hs_ua A 1 m.toNat (A 2 (23016 * i + m).toNat)) := by
  obtain ⟨h1, h2, h3⟩ := h
  refine ⟨fun k hk => by rw [hs_ua_ne hk]; exact h1 k hk, fun j hj => ?_, fun j hj => ?_⟩
  · rw [hs_ua_k]
    by_cases e : j = m.toNat
    · rw [if_pos e, h1 2 (by decide), show (23016 * i + m).toNat = 23016 * i.toNat + j by omega]
    · rw [if_neg e]; exact h2 j (by omega)
  · rw [hs_ua_k, if_neg (by omega)]; exact h3 j hj
def t_image : hs_T := fun as S post => match as with
  | [(4, z), (0, i)] => z = 0 ∧ (¬ (0 ≤ i ∧ i ≤ 1) → ∀ w, post [(0, -1)] (hs_up (hs_up S.1 0 0) 1 w, S.2)) ∧ (0 ≤ i → i ≤ 1 → ∀ w A, im S i A → post [(0, 0)] (hs_up (hs_up S.1 0 0) 1 w, A))
  | _ => False
theorem c_image : hs_C hs_sh2 69 t_image := by
  refine hs_met (nL := 3) (n0 := 90) (n := 120) [] [23] e_b (by decide +kernel) rfl rfl ?_
  intro as S post h
  unfold t_image at h
  split at h
  · rename_i z i
    obtain ⟨rfl, h1, h2⟩ := h
    have Q0 : hs_o (iv S i 0 S.2) := hs_o.of ⟨fun _ _ => rfl, fun j hj => by omega, fun _ _ => rfl⟩
    refine ⟨Nat.le_of_ble_eq_true rfl, (fun hh k g st S' => st = [] ∧ ∃ A m, S' = (hs_up S.1 0 0, A) ∧ g = [(0, (4, 0)), (1, (0, i)), (2, (0, m))] ∧ hs_o (iv S i m A) ∧ (0 ≤ i ∧ i ≤ 1) ∧ (0 ≤ m ∧ m ≤ 23016) ∧ 23017 - m ≤ k), ?_, ?_⟩
    · clear h2
      repeat' (first | (refine And.intro ?_ ?_) | (intro _))
      all_goals (first | omega | exact h1 (by omega) _ | exact h1 _ _ | (dsimp only at *; omega) | ((try dsimp only at *) <;> (try simp only [hs_up_r, Nat.reduceBEq, cond_true, cond_false, Int.reduceToNat, not_true_eq_false, not_false_eq_true, true_and, and_true] at *) <;> omega) | (refine Exists.intro 100000 (Exists.intro [(0, (4, 0)), (1, (0, i)), (2, (0, _))] (And.intro (And.intro rfl (And.intro rfl (And.intro rfl (trivial)))) (And.intro rfl (Exists.intro _ (Exists.intro _ (And.intro rfl (And.intro rfl (And.intro ?_ (And.intro ?_ (And.intro ?_ ?_)))))))))) <;> (first | omega | exact Q0 | ((try dsimp only at *) <;> (try simp only [hs_up_r, Nat.reduceBEq, cond_true, cond_false, Int.reduceToNat, not_true_eq_false, not_false_eq_true, true_and, and_true] at *) <;> omega) | (dsimp only at *; simp only [Int.reduceToNat] at *; refine ⟨?_, ?_, ?_⟩ <;> first | omega | assumption))))
    · intro hh hm
      simp only [List.mem_cons, List.not_mem_nil, or_false] at hm
      subst hm
      intro k g st S' hI
      obtain ⟨rfl, A, m, rfl, rfl, hA, hi, hmm, hk⟩ := hI
      have N1 : m < 23016 → hs_o (iv S i (m + 1) (hs_ua A 2 (23016 * i + m).toNat (A 1 m.toNat))) := fun h => hs_o.of (hA.to.put hi.1 ⟨hmm.1, h⟩)
      have KD : 23016 ≤ m → ∀ w, post [(0, 0)] (hs_up (hs_up S.1 0 0) 1 w, hs_ua A 3 i.toNat 1) := fun h w => h2 hi.1 hi.2 w _ (im_of h hA.to)
      clear h1 h2
      repeat' (first | (refine And.intro ?_ ?_) | (intro _))
      all_goals (first | omega | (dsimp only at *; omega) | exact KD (by omega) _ | exact Or.inl rfl | exact Or.inr rfl | ((try dsimp only at *) <;> (try simp only [hs_up_r, Nat.reduceBEq, cond_true, cond_false, Int.reduceToNat, not_true_eq_false, not_false_eq_true, true_and, and_true] at *) <;> omega) | (refine Exists.intro (k - 1) (And.intro ?_ (Exists.intro [(0, (4, 0)), (1, (0, i)), (2, (0, _))] (And.intro (And.intro rfl (And.intro rfl (And.intro rfl (trivial)))) (And.intro rfl (Exists.intro _ (Exists.intro _ (And.intro rfl (And.intro rfl (And.intro ?_ (And.intro ?_ (And.intro ?_ ?_))))))))))) <;> (first | omega | exact hi | exact N1 (by omega) | (dsimp only at *; omega) | ((try dsimp only at *) <;> (try simp only [hs_up_r, Nat.reduceBEq, cond_true, cond_false, Int.reduceToNat, not_true_eq_false, not_false_eq_true, true_and, and_true] at *) <;> omega))))
  · cases h
theorem bv_done {S : hs_S} {i m : Int} {A : Nat → Nat → Int} (hm : 23016 ≤ m) (h : bv S i m A) : bv S i 23016 A := ⟨h.1, fun j hj => h.2.1 j (by omega), h.2.2⟩
def t_back : hs_T := fun as S post => match as with
  | [(4, z), (0, i)] => z = 0 ∧ (∀ v w, post [(0, v)] (hs_up (hs_up S.1 0 0) 1 w, S.2)) ∧ (0 ≤ i → i ≤ 1 → ¬ S.2 3 i.toNat = 0 → ∀ w A, bv S i 23016 A → post [(0, 0)] (hs_up (hs_up S.1 0 0) 1 w, A))
  | _ => False
theorem c_back : hs_C hs_sh2 34 t_back := by
  refine hs_met (nL := 3) (n0 := 90) (n := 120) [] [39] e_b (by decide +kernel) rfl rfl ?_
  intro as S post h
  unfold t_back at h
  split at h
  · rename_i z i
    obtain ⟨rfl, h1, h2⟩ := h
    have Q0 : hs_o (bv S i 0 S.2) := hs_o.of ⟨fun _ _ => rfl, fun j hj => by omega, fun _ _ => rfl⟩
    refine ⟨Nat.le_of_ble_eq_true rfl, (fun hh k g st S' => st = [] ∧ ∃ A m, S' = (hs_up S.1 0 0, A) ∧ g = [(0, (4, 0)), (1, (0, i)), (2, (0, m))] ∧ hs_o (bv S i m A) ∧ (0 ≤ i ∧ i ≤ 1 ∧ ¬ S.2 3 i.toNat = 0) ∧ (0 ≤ m ∧ m ≤ 23016) ∧ 23017 - m ≤ k), ?_, ?_⟩
    · clear h2
      repeat' (first | (refine And.intro ?_ ?_) | (intro _))
      all_goals (first | omega | exact h1 (by omega) _ | exact h1 _ _ | (dsimp only at *; omega) | ((try dsimp only at *) <;> (try simp only [hs_up_r, Nat.reduceBEq, cond_true, cond_false, Int.reduceToNat, not_true_eq_false, not_false_eq_true, true_and, and_true] at *) <;> omega) | (refine Exists.intro 100000 (Exists.intro [(0, (4, 0)), (1, (0, i)), (2, (0, _))] (And.intro (And.intro rfl (And.intro rfl (And.intro rfl (trivial)))) (And.intro rfl (Exists.intro _ (Exists.intro _ (And.intro rfl (And.intro rfl (And.intro ?_ (And.intro ?_ (And.intro ?_ ?_)))))))))) <;> (first | omega | exact Q0 | ((try dsimp only at *) <;> (try simp only [hs_up_r, Nat.reduceBEq, cond_true, cond_false, Int.reduceToNat, not_true_eq_false, not_false_eq_true, true_and, and_true] at *) <;> omega) | (dsimp only at *; simp only [Int.reduceToNat] at *; refine ⟨?_, ?_, ?_⟩ <;> first | omega | assumption))))
    · intro hh hm
      simp only [List.mem_cons, List.not_mem_nil, or_false] at hm
      subst hm
      intro k g st S' hI
      obtain ⟨rfl, A, m, rfl, rfl, hA, hi, hmm, hk⟩ := hI
      have N1 : m < 23016 → hs_o (bv S i (m + 1) (hs_ua A 1 m.toNat (A 2 (23016 * i + m).toNat))) := fun h => hs_o.of (hA.to.put hi.1 ⟨hmm.1, h⟩)
      have KD : 23016 ≤ m → ∀ w, post [(0, 0)] (hs_up (hs_up S.1 0 0) 1 w, A) := fun h w => h2 hi.1 hi.2.1 hi.2.2 w _ (bv_done h hA.to)
      clear h1 h2
      repeat' (first | (refine And.intro ?_ ?_) | (intro _))
      all_goals (first | omega | (dsimp only at *; omega) | exact KD (by omega) _ | exact Or.inl rfl | exact Or.inr rfl | ((try dsimp only at *) <;> (try simp only [hs_up_r, Nat.reduceBEq, cond_true, cond_false, Int.reduceToNat, not_true_eq_false, not_false_eq_true, true_and, and_true] at *) <;> omega) | (refine Exists.intro (k - 1) (And.intro ?_ (Exists.intro [(0, (4, 0)), (1, (0, i)), (2, (0, _))] (And.intro (And.intro rfl (And.intro rfl (And.intro rfl (trivial)))) (And.intro rfl (Exists.intro _ (Exists.intro _ (And.intro rfl (And.intro rfl (And.intro ?_ (And.intro ?_ (And.intro ?_ ?_))))))))))) <;> (first | omega | exact hi | exact N1 (by omega) | (dsimp only at *; omega) | ((try dsimp only at *) <;> (try simp only [hs_up_r, Nat.reduceBEq, cond_true, cond_false, Int.reduceToNat, not_true_eq_false, not_false_eq_true, true_and, and_true] at *) <;> omega))))
  · cases h

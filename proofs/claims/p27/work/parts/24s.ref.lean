/-! ===== the reference: the way ===== -/
theorem php : ∀ (w n : Nat) (f : Nat → Int), (∀ k, k < n → 0 ≤ f k ∧ f k < (w : Int)) → (∀ k l, k < n → l < n → f k = f l → k = l) → n ≤ w
  | 0, n, f, h, _ => Nat.le_of_not_lt (fun hn => by
    have := h 0 hn
    omega)
  | w + 1, n, f, h, hi => by
    by_cases e : ∃ k, k < n ∧ f k = (w : Int)
    · obtain ⟨k, hk, ek⟩ := e
      have := php w (n - 1) (fun i => if i = k then f (n - 1) else f i) (fun i hin => by
        by_cases e1 : i = k
        · rw [if_pos e1]
          have h1 := h (n - 1) (by omega)
          have h2 : ¬ f (n - 1) = (w : Int) := fun q => by
            have := hi (n - 1) k (by omega) hk (q.trans ek.symm)
            omega
          omega
        · rw [if_neg e1]
          have h1 := h i (by omega)
          have h2 : ¬ f i = (w : Int) := fun q => e1 (hi i k (by omega) hk (q.trans ek.symm))
          omega) (fun a b ha hb q => by
        by_cases e1 : a = k
        · by_cases e2 : b = k
          · omega
          · rw [if_pos e1, if_neg e2] at q
            have := hi (n - 1) b (by omega) (by omega) q
            omega
        · by_cases e2 : b = k
          · rw [if_neg e1, if_pos e2] at q
            have := hi a (n - 1) (by omega) (by omega) q
            omega
          · rw [if_neg e1, if_neg e2] at q
            exact hi a b (by omega) (by omega) q)
      omega
    · have := php w n f (fun k hk => by
        have h1 := h k hk
        have h2 : ¬ f k = (w : Int) := fun q => e ⟨k, hk, q⟩
        omega) hi
      omega
def mw (A : Nat → Nat → Int) (i j : Int) : Int := ms (A 31) i.toNat j
/-- gone to, each once -/
def gd (w : Int) (A : Nat → Nat → Int) (i : Int) : Prop := (∀ k : Nat, (k : Int) < i → 0 ≤ A 31 k ∧ A 31 k < w) ∧ ∀ k l : Nat, (k : Int) < i → (l : Int) < i → A 31 k = A 31 l → k = l
def gf (A : Nat → Nat → Int) (i j : Int) : Prop := ∀ k : Nat, (k : Int) < i → ¬ A 31 k = j
theorem gd.bck {w : Int} {A : Nat → Nat → Int} {i : Int} (h : gd w A i) : gd w A (i + -1) := ⟨fun m hm => h.1 m (by omega), fun k l hk hl => h.2 k l (by omega) (by omega)⟩
theorem gd.adv {w : Int} {A B : Nat → Nat → Int} {i j : Int} (hi : 0 ≤ i) (hj : 0 ≤ j ∧ j < w) (hB : B 31 = hs_ua A 31 i.toNat j 31) (hf : gf A i j) (h : gd w A i) : gd w B (i + 1) := by
  have b1 : ∀ m : Nat, (m : Int) < i → B 31 m = A 31 m := fun m hm => by rw [hB, hs_ua_k, if_neg (by omega)]
  have b2 : B 31 i.toNat = j := by rw [hB, hs_ua_k, if_pos rfl]
  refine ⟨fun m hm => ?_, fun k l hk hl q => ?_⟩
  · by_cases e : m = i.toNat
    · rw [e, b2]; exact hj
    · rw [b1 m (by omega)]; exact h.1 m (by omega)
  · by_cases e1 : k = i.toNat
    · by_cases e2 : l = i.toNat
      · omega
      · rw [e1, b2, b1 l (by omega)] at q
        exact absurd q.symm (hf l (by omega))
    · by_cases e2 : l = i.toNat
      · rw [e2, b2, b1 k (by omega)] at q
        exact absurd q (hf k (by omega))
      · rw [b1 k (by omega), b1 l (by omega)] at q
        exact h.2 k l (by omega) (by omega) q
theorem gd.le {w : Int} {A : Nat → Nat → Int} {i : Int} (hw : 0 ≤ w) (hi : 0 ≤ i) (h : gd w A i) : i ≤ w := by
  have := php w.toNat i.toNat (A 31) (fun k hk => by
    have := h.1 k (by omega)
    omega) (fun k l hk hl => h.2 k l (by omega) (by omega))
  omega
theorem gd.room {w : Int} {A : Nat → Nat → Int} {i j : Int} (hw : 0 ≤ w) (hi : 0 ≤ i) (hj : 0 ≤ j ∧ j < w) (hf : gf A i j) (h : gd w A i) : i < w := by
  have := gd.le hw (by omega) (gd.adv (B := hs_ua A 31 i.toNat j) hi hj rfl hf h)
  omega
theorem mw_top {w : Int} {A : Nat → Nat → Int} {i j : Int} (hw : w ≤ 7) (hi : 0 ≤ i ∧ i ≤ 7) (hj : j ≤ 7) (hl : gd w A i) : mw A i j < 268435463 := by
  unfold mw
  refine ms_top (by omega) (fun k hk => ?_) hj
  have := hl.1 k (by omega)
  omega
theorem mw_nxt {A : Nat → Nat → Int} {i j : Int} : mw A i j + 1 ≤ mw A i (j + 1) := ms_nxt
theorem mw_adv {A B : Nat → Nat → Int} {i j : Int} (hi : 0 ≤ i) (hB : B 31 = hs_ua A 31 i.toNat j 31) : mw B (i + 1) 0 = mw A i j + 1 := by
  unfold mw
  rw [show (i + 1).toNat = i.toNat + 1 by omega, hB]
  refine ms_adv (fun k hk => ?_) ?_
  · rw [hs_ua_k, if_neg (by omega)]
  · rw [hs_ua_k, if_pos rfl]
theorem mw_bck {A : Nat → Nat → Int} {i j : Int} (hi : 1 ≤ i ∧ i ≤ 7) (hj : j ≤ 7) : mw A i j + 1 ≤ mw A (i + -1) (A 31 (i + -1).toNat + 1) := by
  unfold mw
  rw [show i.toNat = (i + -1).toNat + 1 by omega]
  exact ms_bck (by omega) hj
def t_areThere : hs_T := fun as S post => match as with
  | [(4, z)] => z = 0 ∧ (0 ≤ S.1 34 ∧ S.1 34 ≤ 7) ∧ (0 ≤ S.2 1 0 ∧ S.2 1 0 ≤ 16) ∧ (post [(0, 0)] S ∧ post [(0, 1)] S)
  | _ => False
theorem c_areThere : hs_C hs_sh 32 t_areThere := by
  refine hs_met (nL := 3) (n0 := 60) (n := 120) [] [4] e_21 (by decide +kernel) rfl rfl ?_
  intro as S post h
  unfold t_areThere at h
  split at h
  · rename_i z
    obtain ⟨rfl, hw, hr, p0, p1⟩ := h
    refine ⟨Nat.le_of_ble_eq_true rfl, (fun hh k g st S' => st = [] ∧ S' = S ∧ hh = 4 ∧ ∃ u i, g = [(0, (4, 0)), (1, (0, u)), (2, (0, i))] ∧ (u = 0 ∨ u = 1) ∧ (0 ≤ i ∧ i ≤ 7) ∧ 8 - i ≤ k), ?_, ?_⟩
    · refine Exists.intro 100 (Exists.intro [(0, (4, 0)), (1, (0, _)), (2, (0, _))] (And.intro (And.intro rfl (And.intro rfl (And.intro rfl (trivial)))) (And.intro rfl (And.intro rfl (And.intro rfl (Exists.intro _ (Exists.intro _ (And.intro rfl (And.intro (Or.inr rfl) (And.intro ?_ ?_)))))))))) <;> ((try dsimp only at *) <;> (try simp only [hs_up_r, Nat.reduceBEq, cond_true, cond_false, Int.reduceToNat, not_true_eq_false, not_false_eq_true, true_and, and_true] at *) <;> omega)
    · intro hh hm
      simp only [List.mem_cons, List.not_mem_nil, or_false] at hm
      subst hm
      intro k g st S' hI
      obtain ⟨rfl, rfl, -, u, i, rfl, hu, hi, hk⟩ := hI
      have KP : post [(0, u)] S' := by
        rcases hu with rfl | rfl
        · exact p0
        · exact p1
      repeat' (first | (refine And.intro ?_ ?_) | (intro _))
      all_goals (first | omega | exact KP | (dsimp only at *; omega) | ((try dsimp only at *) <;> (try simp only [hs_up_r, Nat.reduceBEq, cond_true, cond_false, Int.reduceToNat, not_true_eq_false, not_false_eq_true, true_and, and_true] at *) <;> omega) | (refine Exists.intro (k - 1) (And.intro ?_ (Exists.intro [(0, (4, 0)), (1, (0, _)), (2, (0, _))] (And.intro (And.intro rfl (And.intro rfl (And.intro rfl (trivial)))) (And.intro rfl (And.intro rfl (And.intro rfl (Exists.intro _ (Exists.intro _ (And.intro rfl (And.intro ?_ (And.intro ?_ ?_))))))))))) <;> (first | exact Or.inl rfl | exact Or.inr rfl | assumption | (try dsimp only at *) <;> (try simp only [hs_up_r, Nat.reduceBEq, cond_true, cond_false, Int.reduceToNat, not_true_eq_false, not_false_eq_true, true_and, and_true] at *) <;> omega)))
  · cases h
def E_22 : hs_E := hs_ad E_21 32 t_areThere
theorem e_22 : ∀ K, hs_C hs_sh K (E_22 K) := hs_ad_ok e_21 c_areThere
def t_daysOf : hs_T := fun as S post => match as with
  | [(4, z), (0, a), (0, b)] => z = 0 ∧ (0 ≤ a ∧ a ≤ 15) ∧ (0 ≤ b ∧ b ≤ 15) ∧ 1 ≤ S.2 1 9 ∧ ∀ v, post [(0, v)] S
  | _ => False
theorem c_daysOf : hs_C hs_sh 49 t_daysOf := by
  refine hs_met0 (nL := 4) (n0 := 80) [13, 15, 23, 58] e_22 (by decide +kernel) rfl rfl ?_
  intro as S post h
  unfold t_daysOf at h
  split at h
  · obtain ⟨rfl, p1, p2, p4, p3⟩ := h
    refine ⟨Nat.le_of_ble_eq_true rfl, ?_⟩
    repeat' (first | (refine And.intro ?_ ?_) | (intro _))
    all_goals (first | omega | ((try dsimp only at *) <;> (try simp only [hs_up_r, Nat.reduceBEq, cond_true, cond_false, Int.reduceToNat, not_true_eq_false, not_false_eq_true, true_and, and_true] at *) <;> omega) | (exact p3 _))
  · cases h
def E_23 : hs_E := hs_ad E_22 49 t_daysOf
theorem e_23 : ∀ K, hs_C hs_sh K (E_23 K) := hs_ad_ok e_22 c_daysOf
def t_isGone : hs_T := fun as S post => match as with
  | [(4, z), (0, n), (0, j)] => z = 0 ∧ (0 ≤ n ∧ n ≤ 7) ∧ (post [(0, 1)] S ∧ (hs_o (gf S.2 n j) → post [(0, 0)] S))
  | _ => False
theorem c_isGone : hs_C hs_sh 80 t_isGone := by
  refine hs_met (nL := 5) (n0 := 60) (n := 120) [] [5] e_23 (by decide +kernel) rfl rfl ?_
  intro as S post h
  unfold t_isGone at h
  split at h
  · rename_i z n j
    obtain ⟨rfl, hn, p1, p0⟩ := h
    refine ⟨Nat.le_of_ble_eq_true rfl, (fun hh k g st S' => st = [] ∧ S' = S ∧ hh = 5 ∧ ∃ u i, g = [(0, (4, 0)), (1, (0, n)), (2, (0, j)), (3, (0, u)), (4, (0, i))] ∧ (u = 1 ∨ (u = 0 ∧ hs_o (gf S.2 i j))) ∧ (0 ≤ i ∧ i ≤ n) ∧ 8 - i ≤ k), ?_, ?_⟩
    · have G0 : hs_o (gf S.2 0 j) := hs_o.of (fun k hk => by omega)
      refine Exists.intro 100 (Exists.intro [(0, (4, 0)), (1, (0, n)), (2, (0, j)), (3, (0, _)), (4, (0, _))] (And.intro (And.intro rfl (And.intro rfl (And.intro rfl (And.intro rfl (And.intro rfl (trivial)))))) (And.intro rfl (And.intro rfl (And.intro rfl (Exists.intro _ (Exists.intro _ (And.intro rfl (And.intro (Or.inr (And.intro rfl G0)) (And.intro ?_ ?_)))))))))) <;> ((try dsimp only at *) <;> (try simp only [hs_up_r, Nat.reduceBEq, cond_true, cond_false, Int.reduceToNat, not_true_eq_false, not_false_eq_true, true_and, and_true] at *) <;> omega)
    · intro hh hm
      simp only [List.mem_cons, List.not_mem_nil, or_false] at hm
      subst hm
      intro k g st S' hI
      obtain ⟨rfl, rfl, -, u, i, rfl, hu, hi, hk⟩ := hI
      rcases hu with rfl | ⟨rfl, ⟨-, hu⟩⟩
      · clear p0
        repeat' (first | (refine And.intro ?_ ?_) | (intro _))
        all_goals (first | omega | exact p1 | (dsimp only at *; omega) | ((try dsimp only at *) <;> (try simp only [hs_up_r, Nat.reduceBEq, cond_true, cond_false, Int.reduceToNat, not_true_eq_false, not_false_eq_true, true_and, and_true] at *) <;> omega) | (refine Exists.intro (k - 1) (And.intro ?_ (Exists.intro [(0, (4, 0)), (1, (0, n)), (2, (0, j)), (3, (0, _)), (4, (0, _))] (And.intro (And.intro rfl (And.intro rfl (And.intro rfl (And.intro rfl (And.intro rfl (trivial)))))) (And.intro rfl (And.intro rfl (And.intro rfl (Exists.intro _ (Exists.intro _ (And.intro rfl (And.intro ?_ (And.intro ?_ ?_))))))))))) <;> (first | exact Or.inl rfl | (try dsimp only at *) <;> (try simp only [hs_up_r, Nat.reduceBEq, cond_true, cond_false, Int.reduceToNat, not_true_eq_false, not_false_eq_true, true_and, and_true] at *) <;> omega)))
      · have G1 : ¬ S'.2 31 i.toNat = j → hs_o (gf S'.2 (i + 1) j) := fun h => hs_o.of (fun k hk => by
          by_cases e : k = i.toNat
          · rw [e]; exact h
          · exact hu k (by omega))
        have G2 : n ≤ i → post [(0, 0)] S' := fun h => p0 (hs_o.of (fun k hk => hu k (by omega)))
        clear p0 hu
        repeat' (first | (refine And.intro ?_ ?_) | (intro _))
        all_goals (first | omega | exact p1 | exact G2 ‹_› | (dsimp only at *; omega) | ((try dsimp only at *) <;> (try simp only [hs_up_r, Nat.reduceBEq, cond_true, cond_false, Int.reduceToNat, not_true_eq_false, not_false_eq_true, true_and, and_true] at *) <;> omega) | (refine Exists.intro (k - 1) (And.intro ?_ (Exists.intro [(0, (4, 0)), (1, (0, n)), (2, (0, j)), (3, (0, _)), (4, (0, _))] (And.intro (And.intro rfl (And.intro rfl (And.intro rfl (And.intro rfl (And.intro rfl (trivial)))))) (And.intro rfl (And.intro rfl (And.intro rfl (Exists.intro _ (Exists.intro _ (And.intro rfl (And.intro ?_ (And.intro ?_ ?_))))))))))) <;> (first | exact Or.inl rfl | exact Or.inr ⟨rfl, G1 ‹_›⟩ | (try dsimp only at *) <;> (try simp only [hs_up_r, Nat.reduceBEq, cond_true, cond_false, Int.reduceToNat, not_true_eq_false, not_false_eq_true, true_and, and_true] at *) <;> omega)))
  · cases h
def E_24 : hs_E := hs_ad E_23 80 t_isGone
theorem e_24 : ∀ K, hs_C hs_sh K (E_24 K) := hs_ad_ok e_23 c_isGone
def t_pollOf : hs_T := fun as S post => match as with
  | [(4, z), (0, i), (0, q), (0, _)] => z = 0 ∧ (0 ≤ i ∧ i < 7) ∧ (0 ≤ q ∧ q ≤ 15) ∧ (0 ≤ S.2 16 i.toNat ∧ S.2 16 i.toNat ≤ 15) ∧ 1 ≤ S.2 1 9 ∧ ∀ v, post [(0, v)] S
  | _ => False
theorem c_pollOf : hs_C hs_sh 120 t_pollOf := by
  refine hs_met0 (nL := 5) (n0 := 80) [12] e_24 (by decide +kernel) rfl rfl ?_
  intro as S post h
  unfold t_pollOf at h
  split at h
  · obtain ⟨rfl, p1, p2, p4, p5, p3⟩ := h
    refine ⟨Nat.le_of_ble_eq_true rfl, ?_⟩
    repeat' (first | (refine And.intro ?_ ?_) | (intro _))
    all_goals (first | omega | ((try dsimp only at *) <;> (try simp only [hs_up_r, Nat.reduceBEq, cond_true, cond_false, Int.reduceToNat, not_true_eq_false, not_false_eq_true, true_and, and_true] at *) <;> omega) | (exact p3 _))
  · cases h
def E_25 : hs_E := hs_ad E_24 120 t_pollOf
theorem e_25 : ∀ K, hs_C hs_sh K (E_25 K) := hs_ad_ok e_24 c_pollOf
def kw (S : hs_S) (A : Nat → Nat → Int) : Prop := ∀ k, ¬ k = 29 → ¬ k = 30 → A k = S.2 k
theorem kw.put {S : hs_S} {A : Nat → Nat → Int} {j i : Nat} {v : Int} (h : kw S A) (hj : j = 29 ∨ j = 30) : kw S (hs_ua A j i v) := fun k h1 h2 => by rw [hs_ua_ne (by omega)]; exact h k h1 h2
def t_keepWay : hs_T := fun as S post => match as with
  | [(4, z), (0, n)] => z = 0 ∧ (0 ≤ n ∧ n ≤ 7) ∧ (0 ≤ S.1 54 ∧ S.1 54 ≤ 7) ∧ ∀ v A, (0 ≤ v ∧ v ≤ 7) → kw S A → post [] (hs_up S.1 54 v, A)
  | _ => False
theorem c_keepWay : hs_C hs_sh 92 t_keepWay := by
  refine hs_met (nL := 4) (n0 := 60) (n := 120) [] [47] e_25 (by decide +kernel) rfl rfl ?_
  intro as S post h
  unfold t_keepWay at h
  split at h
  · rename_i z n
    obtain ⟨rfl, hn, h54, hp⟩ := h
    have hA : kw S S.2 := fun _ _ _ => rfl
    refine ⟨Nat.le_of_ble_eq_true rfl, (fun hh k g st S' => st = [] ∧ ∃ A u i, S' = (S.1, A) ∧ g = [(0, (4, 0)), (1, (0, n)), (2, (0, u)), (3, (0, i))] ∧ kw S A ∧ (0 ≤ i ∧ i ≤ n) ∧ 8 - i ≤ k), ?_, ?_⟩
    · repeat' (first | (refine And.intro ?_ ?_) | (intro _))
      all_goals (first | omega | (dsimp only at *; omega) | ((try dsimp only at *) <;> (try simp only [hs_up_r, Nat.reduceBEq, cond_true, cond_false, Int.reduceToNat, not_true_eq_false, not_false_eq_true, true_and, and_true] at *) <;> omega) | (refine Exists.intro 100 (Exists.intro [(0, (4, 0)), (1, (0, n)), (2, (0, _)), (3, (0, _))] (And.intro (And.intro rfl (And.intro rfl (And.intro rfl (And.intro rfl (trivial))))) (And.intro rfl (Exists.intro _ (Exists.intro _ (Exists.intro _ (And.intro rfl (And.intro rfl (And.intro ?_ (And.intro ?_ ?_)))))))))) <;> (first | omega | (first | assumption | exact hA.put (Or.inl rfl) | exact hA.put (Or.inr rfl) | exact (hA.put (Or.inl rfl)).put (Or.inr rfl)) | ((try dsimp only at *) <;> (try simp only [hs_up_r, Nat.reduceBEq, cond_true, cond_false, Int.reduceToNat, not_true_eq_false, not_false_eq_true, true_and, and_true] at *) <;> omega))))
    · intro hh hm
      simp only [List.mem_cons, List.not_mem_nil, or_false] at hm
      subst hm
      intro k g st S' hI
      obtain ⟨rfl, A, u, i, rfl, rfl, hA, hi, hk⟩ := hI
      have K1 : ∀ v, (0 ≤ v ∧ v ≤ 7) → post [] (hs_up S.1 54 v, A) := fun v hv => hp v A hv hA
      clear hp
      repeat' (first | (refine And.intro ?_ ?_) | (intro _))
      all_goals (first | omega | exact K1 _ hn | exact K1 _ h54 | (dsimp only at *; omega) | ((try dsimp only at *) <;> (try simp only [hs_up_r, Nat.reduceBEq, cond_true, cond_false, Int.reduceToNat, not_true_eq_false, not_false_eq_true, true_and, and_true] at *) <;> omega) | (refine Exists.intro (k - 1) (And.intro ?_ (Exists.intro [(0, (4, 0)), (1, (0, n)), (2, (0, _)), (3, (0, _))] (And.intro (And.intro rfl (And.intro rfl (And.intro rfl (And.intro rfl (trivial))))) (And.intro rfl (Exists.intro _ (Exists.intro _ (Exists.intro _ (And.intro rfl (And.intro rfl (And.intro ?_ (And.intro ?_ ?_))))))))))) <;> (first | omega | (first | assumption | exact hA.put (Or.inl rfl) | exact hA.put (Or.inr rfl) | exact (hA.put (Or.inl rfl)).put (Or.inr rfl)) | ((try dsimp only at *) <;> (try simp only [hs_up_r, Nat.reduceBEq, cond_true, cond_false, Int.reduceToNat, not_true_eq_false, not_false_eq_true, true_and, and_true] at *) <;> omega))))
  · cases h
def E_26 : hs_E := hs_ad E_25 92 t_keepWay
theorem e_26 : ∀ K, hs_C hs_sh K (E_26 K) := hs_ad_ok e_25 c_keepWay

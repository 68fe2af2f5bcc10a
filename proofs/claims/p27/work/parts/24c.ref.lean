/-! ===== the reference's parser: small steps ===== -/
theorem hs_C.mono {sh : List (Nat × Nat)} {K : Nat} {t t' : hs_T} (h : hs_C sh K t) (hm : ∀ as S post, t' as S post → t as S post) : hs_C sh K t' := fun sb l D ws tys vs sz as S post ht => h sb l D ws tys vs sz as S post (hm as S post ht)
theorem hs_fr_nx {f F : Nat → Int} (h : hs_fr [11, 12, 13, 14] f F) : F = hs_up (hs_up (hs_up (hs_up f 11 (F 11)) 12 (F 12)) 13 (F 13)) 14 (F 14) := by
  funext j
  by_cases e4 : j = 14
  · subst e4; rw [hs_up_eq]
  · rw [hs_up_ne e4]
    by_cases e3 : j = 13
    · subst e3; rw [hs_up_eq]
    · rw [hs_up_ne e3]
      by_cases e2 : j = 12
      · subst e2; rw [hs_up_eq]
      · rw [hs_up_ne e2]
        by_cases e1 : j = 11
        · subst e1; rw [hs_up_eq]
        · rw [hs_up_ne e1]
          exact h j (by simp [e1, e2, e3, e4])
def t_nx : hs_T := fun as S post => match as with
  | [(4, z)] => z = 0 ∧ (0 ≤ S.1 12 ∧ S.1 12 ≤ S.1 10 ∧ S.1 10 ≤ 400) ∧ ∀ a b c d, S.1 12 ≤ a → a ≤ b → b ≤ S.1 10 → 0 ≤ c → c ≤ 3 → (c = 0 → a = S.1 10) → (¬ c = 0 → a < b) → post [] (hs_up (hs_up (hs_up (hs_up S.1 11 a) 12 b) 13 c) 14 d, S.2)
  | _ => False
theorem c_nx : hs_C hs_sh 106 t_nx := c_next.mono (fun as S post h => by
  unfold t_nx at h
  split at h
  · obtain ⟨h1, h2, h3⟩ := h
    refine And.intro h1 (And.intro h2 (fun F hF h10 hk => ?_))
    obtain ⟨k1, k2, k3, k4, k5, k6⟩ := hk
    rw [hs_fr_nx hF]
    exact h3 _ _ _ _ k1 k2 (by omega) k4.1 k4.2 (by omega) k6
  · cases h)
def E_4 : hs_E := hs_ad E_3 106 t_nx
theorem e_4 : ∀ K, hs_C hs_sh K (E_4 K) := hs_ad_ok e_3 c_nx
def t_begin : hs_T := fun as S post => match as with
  | [(4, z)] => z = 0 ∧ (0 ≤ S.1 10 ∧ S.1 10 ≤ 400) ∧ ∀ a b c d w, 0 ≤ a → a ≤ b → b ≤ S.1 10 → 0 ≤ c → c ≤ 3 → (c = 0 → a = S.1 10) → (¬ c = 0 → a < b) → post [] (hs_up (hs_up (hs_up (hs_up (hs_up (hs_up (hs_up S.1 12 0) 16 0) 15 w) 11 a) 12 b) 13 c) 14 d, S.2)
  | _ => False
theorem c_begin : hs_C hs_sh 35 t_begin := by
  refine hs_met0 (nL := 1) (n0 := 80) [] e_4 (by decide +kernel) rfl rfl ?_
  intro as S post h
  unfold t_begin at h
  split at h
  · obtain ⟨rfl, hl, p1⟩ := h
    refine ⟨Nat.le_of_ble_eq_true rfl, ?_⟩
    repeat' (first | (refine And.intro ?_ ?_) | (intro _))
    all_goals (first | omega | ((try dsimp only at *) <;> (try simp only [hs_up_r, Nat.reduceBEq, cond_true, cond_false, Int.reduceToNat, not_true_eq_false, not_false_eq_true, true_and, and_true] at *) <;> omega) | ((refine p1 _ _ _ _ _ ?_ ?_ ?_ ?_ ?_ ?_ ?_ <;> ((try dsimp only at *) <;> (try simp only [hs_up_r, Nat.reduceBEq, cond_true, cond_false, Int.reduceToNat, not_true_eq_false, not_false_eq_true, true_and, and_true] at *) <;> omega))))
  · cases h
def t_must : hs_T := fun as S post => match as with
  | [(4, z), (0, q)] => z = 0 ∧ (0 ≤ S.1 12 ∧ S.1 12 ≤ S.1 10 ∧ S.1 10 ≤ 400) ∧ (S.1 16 = 0 ∨ S.1 16 = 1) ∧ (S.1 16 = 1 → post [] S) ∧ (S.1 16 = 0 → q = 0 → ∀ w, post [] (hs_up (hs_up S.1 16 1) 15 w, S.2)) ∧ (S.1 16 = 0 → ¬ q = 0 → ∀ a b c d, S.1 12 ≤ a → a ≤ b → b ≤ S.1 10 → 0 ≤ c → c ≤ 3 → (c = 0 → a = S.1 10) → (¬ c = 0 → a < b) → post [] (hs_up (hs_up (hs_up (hs_up S.1 11 a) 12 b) 13 c) 14 d, S.2))
  | _ => False
theorem c_must : hs_C hs_sh 103 t_must := by
  refine hs_met0 (nL := 2) (n0 := 80) [] e_4 (by decide +kernel) rfl rfl ?_
  intro as S post h
  unfold t_must at h
  split at h
  · obtain ⟨rfl, hl, hb, p1, p2, p3⟩ := h
    refine ⟨Nat.le_of_ble_eq_true rfl, ?_⟩
    repeat' (first | (refine And.intro ?_ ?_) | (intro _))
    all_goals (first | omega | ((try dsimp only at *) <;> (try simp only [hs_up_r, Nat.reduceBEq, cond_true, cond_false, Int.reduceToNat, not_true_eq_false, not_false_eq_true, true_and, and_true] at *) <;> omega) | ((refine p1 ?_ <;> ((try dsimp only at *) <;> (try simp only [hs_up_r, Nat.reduceBEq, cond_true, cond_false, Int.reduceToNat, not_true_eq_false, not_false_eq_true, true_and, and_true] at *) <;> omega))) | ((refine p2 ?_ ?_ _ <;> ((try dsimp only at *) <;> (try simp only [hs_up_r, Nat.reduceBEq, cond_true, cond_false, Int.reduceToNat, not_true_eq_false, not_false_eq_true, true_and, and_true] at *) <;> omega))) | ((refine p3 ?_ ?_ _ _ _ _ ?_ ?_ ?_ ?_ ?_ ?_ ?_ <;> ((try dsimp only at *) <;> (try simp only [hs_up_r, Nat.reduceBEq, cond_true, cond_false, Int.reduceToNat, not_true_eq_false, not_false_eq_true, true_and, and_true] at *) <;> omega))))
  · cases h
def E_5 : hs_E := hs_ad (hs_ad E_4 35 t_begin) 103 t_must
theorem e_5 : ∀ K, hs_C hs_sh K (E_5 K) := hs_ad_ok (hs_ad_ok e_4 c_begin) c_must
def t_number : hs_T := fun as S post => match as with
  | [(4, z), (1, lo), (1, hi)] => z = 0 ∧ (0 ≤ S.1 12 ∧ S.1 12 ≤ S.1 10 ∧ S.1 10 ≤ 400) ∧ (S.1 16 = 0 ∨ S.1 16 = 1) ∧ (0 ≤ lo ∧ hi ≤ 100000) ∧ (S.1 16 = 1 → ∀ v, post [(0, v)] S) ∧ (S.1 16 = 0 → ∀ v w, post [(0, v)] (hs_up (hs_up S.1 16 1) 15 w, S.2)) ∧ (S.1 16 = 0 → ∀ v a b c d, lo ≤ v → v ≤ hi → S.1 13 = 2 → S.1 12 ≤ a → a ≤ b → b ≤ S.1 10 → 0 ≤ c → c ≤ 3 → (c = 0 → a = S.1 10) → (¬ c = 0 → a < b) → post [(0, v)] (hs_up (hs_up (hs_up (hs_up S.1 11 a) 12 b) 13 c) 14 d, S.2))
  | _ => False
theorem c_number : hs_C hs_sh 107 t_number := by
  refine hs_met0 (nL := 6) (n0 := 80) [] e_5 (by decide +kernel) rfl rfl ?_
  intro as S post h
  unfold t_number at h
  split at h
  · obtain ⟨rfl, hl, hb, hr, p1, p2, p3⟩ := h
    refine ⟨Nat.le_of_ble_eq_true rfl, ?_⟩
    repeat' (first | (refine And.intro ?_ ?_) | (intro _))
    all_goals (first | omega | ((try dsimp only at *) <;> (try simp only [hs_up_r, Nat.reduceBEq, cond_true, cond_false, Int.reduceToNat, not_true_eq_false, not_false_eq_true, true_and, and_true] at *) <;> omega) | ((refine p1 ?_ _ <;> ((try dsimp only at *) <;> (try simp only [hs_up_r, Nat.reduceBEq, cond_true, cond_false, Int.reduceToNat, not_true_eq_false, not_false_eq_true, true_and, and_true] at *) <;> omega))) | ((refine p2 ?_ _ _ <;> ((try dsimp only at *) <;> (try simp only [hs_up_r, Nat.reduceBEq, cond_true, cond_false, Int.reduceToNat, not_true_eq_false, not_false_eq_true, true_and, and_true] at *) <;> omega))) | ((refine p3 ?_ _ _ _ _ _ ?_ ?_ ?_ ?_ ?_ ?_ ?_ ?_ ?_ ?_ <;> ((try dsimp only at *) <;> (try simp only [hs_up_r, Nat.reduceBEq, cond_true, cond_false, Int.reduceToNat, not_true_eq_false, not_false_eq_true, true_and, and_true] at *) <;> omega))))
  · cases h
def t_open : hs_T := fun as S post => match as with
  | [(4, z), (0, op)] => z = 0 ∧ (0 ≤ S.1 12 ∧ S.1 12 ≤ S.1 10 ∧ S.1 10 ≤ 400) ∧ (S.1 16 = 0 ∨ S.1 16 = 1) ∧ (0 ≤ S.1 25 ∧ S.1 25 < 400) ∧ (-1000 ≤ S.1 26 ∧ S.1 26 ≤ 8) ∧ (S.1 16 = 1 → post [] S) ∧ (S.1 16 = 0 → ∀ w, post [] (hs_up (hs_up S.1 16 1) 15 w, S.2)) ∧ (S.1 16 = 0 → S.1 26 < 8 → ∀ a b c d, S.1 12 ≤ a → a ≤ b → b ≤ S.1 10 → 0 ≤ c → c ≤ 3 → (c = 0 → a = S.1 10) → (¬ c = 0 → a < b) → post [] (hs_up (hs_up (hs_up (hs_up (hs_up (hs_up S.1 11 a) 12 b) 13 c) 14 d) 26 (S.1 26 + 1)) 25 (S.1 25 + 1), hs_ua (hs_ua S.2 10 (S.1 25).toNat op) 11 (S.1 25).toNat 0))
  | _ => False
theorem c_open : hs_C hs_sh 112 t_open := by
  refine hs_met0 (nL := 2) (n0 := 80) [] e_5 (by decide +kernel) rfl rfl ?_
  intro as S post h
  unfold t_open at h
  split at h
  · obtain ⟨rfl, hl, hb, hp, ho, p1, p2, p3⟩ := h
    refine ⟨Nat.le_of_ble_eq_true rfl, ?_⟩
    repeat' (first | (refine And.intro ?_ ?_) | (intro _))
    all_goals (first | omega | ((try dsimp only at *) <;> (try simp only [hs_up_r, Nat.reduceBEq, cond_true, cond_false, Int.reduceToNat, not_true_eq_false, not_false_eq_true, true_and, and_true] at *) <;> omega) | ((refine p1 ?_ <;> ((try dsimp only at *) <;> (try simp only [hs_up_r, Nat.reduceBEq, cond_true, cond_false, Int.reduceToNat, not_true_eq_false, not_false_eq_true, true_and, and_true] at *) <;> omega))) | ((refine p2 ?_ _ <;> ((try dsimp only at *) <;> (try simp only [hs_up_r, Nat.reduceBEq, cond_true, cond_false, Int.reduceToNat, not_true_eq_false, not_false_eq_true, true_and, and_true] at *) <;> omega))) | ((refine p3 ?_ ?_ _ _ _ _ ?_ ?_ ?_ ?_ ?_ ?_ ?_ <;> ((try dsimp only at *) <;> (try simp only [hs_up_r, Nat.reduceBEq, cond_true, cond_false, Int.reduceToNat, not_true_eq_false, not_false_eq_true, true_and, and_true] at *) <;> omega))))
  · cases h
def t_leaf : hs_T := fun as S post => match as with
  | [(4, z), (0, q), (0, op), (0, ar)] => z = 0 ∧ (0 ≤ S.1 12 ∧ S.1 12 ≤ S.1 10 ∧ S.1 10 ≤ 400) ∧ (S.1 16 = 0 ∨ S.1 16 = 1) ∧ (0 ≤ S.1 19 ∧ (q = 0 ∨ S.1 19 < 400)) ∧ (0 ≤ S.1 22 ∧ S.1 22 ≤ 50) ∧ (S.1 16 = 1 → post [] S) ∧ (S.1 16 = 0 → ∀ w, post [] (hs_up (hs_up S.1 16 1) 15 w, S.2)) ∧ (S.1 16 = 0 → ¬ q = 0 → S.1 22 < 50 → ∀ a b c d, S.1 12 ≤ a → a ≤ b → b ≤ S.1 10 → 0 ≤ c → c ≤ 3 → (c = 0 → a = S.1 10) → (¬ c = 0 → a < b) → post [] (hs_up (hs_up (hs_up (hs_up (hs_up (hs_up S.1 11 a) 12 b) 13 c) 14 d) 19 (S.1 19 + 1)) 22 (S.1 22 + 1), hs_ua (hs_ua S.2 8 (S.1 19).toNat op) 9 (S.1 19).toNat ar))
  | _ => False
theorem c_leaf : hs_C hs_sh 94 t_leaf := by
  refine hs_met0 (nL := 4) (n0 := 80) [] e_5 (by decide +kernel) rfl rfl ?_
  intro as S post h
  unfold t_leaf at h
  split at h
  · obtain ⟨rfl, hl, hb, hp, ho, p1, p2, p3⟩ := h
    refine ⟨Nat.le_of_ble_eq_true rfl, ?_⟩
    repeat' (first | (refine And.intro ?_ ?_) | (intro _))
    all_goals (first | omega | ((try dsimp only at *) <;> (try simp only [hs_up_r, Nat.reduceBEq, cond_true, cond_false, Int.reduceToNat, not_true_eq_false, not_false_eq_true, true_and, and_true] at *) <;> omega) | ((refine p1 ?_ <;> ((try dsimp only at *) <;> (try simp only [hs_up_r, Nat.reduceBEq, cond_true, cond_false, Int.reduceToNat, not_true_eq_false, not_false_eq_true, true_and, and_true] at *) <;> omega))) | ((refine p2 ?_ _ <;> ((try dsimp only at *) <;> (try simp only [hs_up_r, Nat.reduceBEq, cond_true, cond_false, Int.reduceToNat, not_true_eq_false, not_false_eq_true, true_and, and_true] at *) <;> omega))) | ((refine p3 ?_ ?_ ?_ _ _ _ _ ?_ ?_ ?_ ?_ ?_ ?_ ?_ <;> ((try dsimp only at *) <;> (try simp only [hs_up_r, Nat.reduceBEq, cond_true, cond_false, Int.reduceToNat, not_true_eq_false, not_false_eq_true, true_and, and_true] at *) <;> omega))))
  · cases h
def t_partAt : hs_T := fun as S post => match as with
  | [(4, z)] => z = 0 ∧ ∀ r, (r = -1 ∨ (1 ≤ r ∧ r ≤ 11 ∧ S.1 13 = 1)) → post [(0, r)] S
  | _ => False
theorem c_partAt : hs_C hs_sh 116 t_partAt := by
  refine hs_met0 (nL := 1) (n0 := 120) [] e_5 (by decide +kernel) rfl rfl ?_
  intro as S post h
  unfold t_partAt at h
  split at h
  · obtain ⟨rfl, p1⟩ := h
    refine ⟨Nat.le_of_ble_eq_true rfl, ?_⟩
    repeat' (first | (refine And.intro ?_ ?_) | (intro _))
    all_goals (first | omega | ((try dsimp only at *) <;> (try simp only [hs_up_r, Nat.reduceBEq, cond_true, cond_false, Int.reduceToNat, not_true_eq_false, not_false_eq_true, true_and, and_true] at *) <;> omega) | (refine p1 _ ?_; omega))
  · cases h
def t_plainAt : hs_T := fun as S post => match as with
  | [(4, z)] => z = 0 ∧ ∀ r, (r = -1 ∨ (12 ≤ r ∧ r ≤ 16 ∧ S.1 13 = 1)) → post [(0, r)] S
  | _ => False
theorem c_plainAt : hs_C hs_sh 119 t_plainAt := by
  refine hs_met0 (nL := 1) (n0 := 120) [] e_5 (by decide +kernel) rfl rfl ?_
  intro as S post h
  unfold t_plainAt at h
  split at h
  · obtain ⟨rfl, p1⟩ := h
    refine ⟨Nat.le_of_ble_eq_true rfl, ?_⟩
    repeat' (first | (refine And.intro ?_ ?_) | (intro _))
    all_goals (first | omega | ((try dsimp only at *) <;> (try simp only [hs_up_r, Nat.reduceBEq, cond_true, cond_false, Int.reduceToNat, not_true_eq_false, not_false_eq_true, true_and, and_true] at *) <;> omega) | (refine p1 _ ?_; omega))
  · cases h
def t_headAt : hs_T := fun as S post => match as with
  | [(4, z)] => z = 0 ∧ ∀ r, (r = -1 ∨ (0 ≤ r ∧ r ≤ 7 ∧ S.1 13 = 1)) → post [(0, r)] S
  | _ => False
theorem c_headAt : hs_C hs_sh 66 t_headAt := by
  refine hs_met0 (nL := 1) (n0 := 120) [] e_5 (by decide +kernel) rfl rfl ?_
  intro as S post h
  unfold t_headAt at h
  split at h
  · obtain ⟨rfl, p1⟩ := h
    refine ⟨Nat.le_of_ble_eq_true rfl, ?_⟩
    repeat' (first | (refine And.intro ?_ ?_) | (intro _))
    all_goals (first | omega | ((try dsimp only at *) <;> (try simp only [hs_up_r, Nat.reduceBEq, cond_true, cond_false, Int.reduceToNat, not_true_eq_false, not_false_eq_true, true_and, and_true] at *) <;> omega) | (refine p1 _ ?_; omega))
  · cases h
def E_6 : hs_E := hs_ad (hs_ad (hs_ad (hs_ad (hs_ad (hs_ad E_5 107 t_number) 112 t_open) 94 t_leaf) 116 t_partAt) 119 t_plainAt) 66 t_headAt
theorem e_6 : ∀ K, hs_C hs_sh K (E_6 K) := hs_ad_ok (hs_ad_ok (hs_ad_ok (hs_ad_ok (hs_ad_ok (hs_ad_ok e_5 c_number) c_open) c_leaf) c_partAt) c_plainAt) c_headAt

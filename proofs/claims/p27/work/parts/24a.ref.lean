/-! ===== small methods of the reference ===== -/
def hs_F : hs_E := fun _ _ _ _ => False
theorem hs_F_ok {sh : List (Nat × Nat)} : ∀ K, hs_C sh K (hs_F K) := fun K sb l D ws tys vs sz as S post h => h.elim
def hs_ad (E : hs_E) (K : Nat) (t : hs_T) : hs_E := fun k => bif k == K then t else E k
theorem hs_ad_ok {sh : List (Nat × Nat)} {E : hs_E} {K : Nat} {t : hs_T} (hE : ∀ K, hs_C sh K (E K)) (ht : hs_C sh K t) : ∀ k, hs_C sh k (hs_ad E K t k) := fun k => by
  unfold hs_ad
  cases e : (k == K) with
  | true =>
    rw [cond_true]
    have := eq_of_beq e
    subst this
    exact ht
  | false => rw [cond_false]; exact hE k
/-- a method without cuts -/
theorem hs_met0 {E : hs_E} {sh : List (Nat × Nat)} {K nL n0 : Nat} {t : hs_T} (wl : List Nat) (hE : ∀ K, hs_C sh K (E K)) (hkd : ¬ (ai_T K).2.2.2.2.2.2.2 = 3) (hnL : (ai_T K).2.2.2.1 = nL) (hne : (ai_B1 K 0).isEmpty = false) (body : ∀ as S post, t as S post → (as.map hs_cat).sum ≤ nL ∧ hs_wp E wl sh post nL [] (fun _ _ _ _ => False) K n0 (ai_B1 K 0) (hs_arg 0 as) [] S) : hs_C sh K t := hs_met wl [] hE hkd hnL hne (n0 := n0) (n := 0) (fun as S post h => ⟨(body as S post h).1, fun _ _ _ _ _ => False, by
  have := (body as S post h).2
  have e : (fun (h : Nat) (lv : hs_L) (st : List hs_V) (S : hs_S) => ∃ k, hs_J ((fun _ _ _ _ _ => False : Nat → Nat → hs_L → List hs_V → hs_S → Prop) h k) lv st S) = (fun _ _ _ _ => False) := by
    funext h lv st S
    exact propext ⟨fun ⟨k, g, _, q⟩ => q, fun q => q.elim⟩
  rw [e]
  exact this, fun h hh => by cases hh⟩)
def t_in : hs_T := fun as S post => match as with
  | [(1, v), (1, a), (1, b)] => (a ≤ v → v ≤ b → post [(0, 1)] S) ∧ (¬ (a ≤ v ∧ v ≤ b) → post [(0, 0)] S)
  | _ => False
def t_isDay : hs_T := fun as S post => match as with
  | [(0, d)] => (0 ≤ d → d ≤ 399 → post [(0, 1)] S) ∧ (¬ (0 ≤ d ∧ d ≤ 399) → post [(0, 0)] S)
  | _ => False
def t_isSmall : hs_T := fun as S post => match as with
  | [(0, c)] => (97 ≤ c → c ≤ 122 → post [(0, 1)] S) ∧ (¬ (97 ≤ c ∧ c ≤ 122) → post [(0, 0)] S)
  | _ => False
def t_isDigit : hs_T := fun as S post => match as with
  | [(0, c)] => (48 ≤ c → c ≤ 57 → post [(0, 1)] S) ∧ (¬ (48 ≤ c ∧ c ≤ 57) → post [(0, 0)] S)
  | _ => False
def t_binds : hs_T := fun as S post => match as with
  | [(0, op)] => ∀ r, (30 ≤ op → r = 0) → (op = 29 → r = 1) → (op = 28 → r = 2) → (op = 27 → r = 3) → (24 ≤ op → op ≤ 26 → r = 4) → (22 ≤ op → op ≤ 23 → r = 6) → (op < 22 → r = 5) → post [(0, r)] S
  | _ => False
def t_isWord : hs_T := fun as S post => match as with
  | [(4, z), (1, w)] => z = 0 ∧ ∀ r, (r = 0 ∨ (r = 1 ∧ S.1 13 = 1)) → post [(0, r)] S
  | _ => False
def t_isSign : hs_T := fun as S post => match as with
  | [(4, z), (0, w)] => z = 0 ∧ ∀ r, (r = 0 ∨ (r = 1 ∧ S.1 13 = 3)) → post [(0, r)] S
  | _ => False
def t_textAt : hs_T := fun as S post => match as with
  | [(0, t)] => (-100 ≤ t ∧ t ≤ 100) ∧ post [(0, 5056 + 898 * t)] S
  | _ => False
def t_clauseAt : hs_T := fun as S post => match as with
  | [(0, t), (0, c)] => (-100 ≤ t ∧ t ≤ 100) ∧ (-100 ≤ c ∧ c ≤ 100) ∧ post [(0, 5056 + 898 * t + 2 + 8 * c)] S
  | _ => False
def t_placeAt : hs_T := fun as S post => match as with
  | [(0, t)] => (-1000 ≤ t ∧ t ≤ 1000) ∧ post [(0, 20 + 3 * t)] S
  | _ => False
def t_nameAt : hs_T := fun as S post => match as with
  | [(0, t)] => (-1000 ≤ t ∧ t ≤ 1000) ∧ post [(0, 68 + 11 * t)] S
  | _ => False
def t_told : hs_T := fun as S post => match as with
  | [(4, z), (0, v)] => z = 0 ∧ ∀ w, post [(0, v)] (hs_up S.1 1 w, S.2)
  | _ => False
def t_emit : hs_T := fun as S post => match as with
  | [(4, z), (0, a), (0, b)] => z = 0 ∧ (0 ≤ S.1 19 ∧ S.1 19 < 400) ∧ post [] (hs_up S.1 19 (S.1 19 + 1), hs_ua (hs_ua S.2 8 (S.1 19).toNat a) 9 (S.1 19).toNat b)
  | _ => False
def t_push : hs_T := fun as S post => match as with
  | [(4, z), (0, a), (0, b)] => z = 0 ∧ (0 ≤ S.1 25 ∧ S.1 25 < 400) ∧ post [] (hs_up S.1 25 (S.1 25 + 1), hs_ua (hs_ua S.2 10 (S.1 25).toNat a) 11 (S.1 25).toNat b)
  | _ => False
def t_addFour : hs_T := fun as S post => match as with
  | [(4, z), (0, k), (0, a), (0, b), (0, c), (0, d)] => z = 0 ∧ (0 ≤ k ∧ k < 23013) ∧ post [] (S.1, hs_ua (hs_ua (hs_ua (hs_ua S.2 1 k.toNat a) 1 (k + 1).toNat b) 1 (k + 2).toNat c) 1 (k + 3).toNat d)
  | _ => False
def t_isPlace : hs_T := fun as S post => match as with
  | [(4, z), (0, p)] => z = 0 ∧ (0 ≤ S.2 1 0 ∧ S.2 1 0 ≤ 16) ∧ (0 ≤ p → p < S.2 1 0 → post [(0, 1)] S) ∧ (¬ (0 ≤ p ∧ p < S.2 1 0) → post [(0, 0)] S)
  | _ => False
section T24
variable {sh : List (Nat × Nat)}
theorem c_in : hs_C sh 70 t_in := by
  refine hs_met0 (nL := 6) (n0 := 30) [] hs_F_ok (by decide +kernel) rfl rfl ?_
  intro as S post h
  unfold t_in at h
  split at h
  · refine ⟨Nat.le_refl _, ?_⟩
    repeat' (first | (refine And.intro ?_ ?_) | (intro _))
    all_goals (first | omega | (refine h.1 ?_ ?_ <;> omega) | (refine h.2 ?_; omega))
  · cases h
def E_1 : hs_E := hs_ad hs_F 70 t_in
theorem e_1 : ∀ K, hs_C sh K (E_1 K) := hs_ad_ok hs_F_ok c_in
theorem c_isDay : hs_C sh 78 t_isDay := by
  refine hs_met0 (nL := 1) (n0 := 60) [] e_1 (by decide +kernel) rfl rfl ?_
  intro as S post h
  unfold t_isDay at h
  split at h
  · refine ⟨Nat.le_of_ble_eq_true rfl, ?_⟩
    repeat' (first | (refine And.intro ?_ ?_) | (intro _))
    all_goals (first | omega | (dsimp only at *; omega) | (refine h.1 ?_ ?_ <;> omega) | (refine h.2 ?_; omega) | (dsimp only at *; first | (refine h.1 ?_ ?_ <;> omega) | (refine h.2 ?_; omega)))
  · cases h
theorem c_isSmall : hs_C sh 86 t_isSmall := by
  refine hs_met0 (nL := 1) (n0 := 60) [] hs_F_ok (by decide +kernel) rfl rfl ?_
  intro as S post h
  unfold t_isSmall at h
  split at h
  · refine ⟨Nat.le_of_ble_eq_true rfl, ?_⟩
    repeat' (first | (refine And.intro ?_ ?_) | (intro _))
    all_goals (first | omega | (dsimp only at *; omega) | (refine h.1 ?_ ?_ <;> omega) | (refine h.2 ?_; omega) | (dsimp only at *; first | (refine h.1 ?_ ?_ <;> omega) | (refine h.2 ?_; omega)))
  · cases h
theorem c_isDigit : hs_C sh 79 t_isDigit := by
  refine hs_met0 (nL := 1) (n0 := 60) [] hs_F_ok (by decide +kernel) rfl rfl ?_
  intro as S post h
  unfold t_isDigit at h
  split at h
  · refine ⟨Nat.le_of_ble_eq_true rfl, ?_⟩
    repeat' (first | (refine And.intro ?_ ?_) | (intro _))
    all_goals (first | omega | (dsimp only at *; omega) | (refine h.1 ?_ ?_ <;> omega) | (refine h.2 ?_; omega) | (dsimp only at *; first | (refine h.1 ?_ ?_ <;> omega) | (refine h.2 ?_; omega)))
  · cases h
theorem c_binds : hs_C sh 38 t_binds := by
  refine hs_met0 (nL := 1) (n0 := 60) [] hs_F_ok (by decide +kernel) rfl rfl ?_
  intro as S post h
  unfold t_binds at h
  split at h
  · refine ⟨Nat.le_of_ble_eq_true rfl, ?_⟩
    repeat' (first | (refine And.intro ?_ ?_) | (intro _))
    all_goals (first | omega | (dsimp only at *; omega) | (refine h _ ?_ ?_ ?_ ?_ ?_ ?_ ?_ <;> omega) | (dsimp only at *; first | (refine h _ ?_ ?_ ?_ ?_ ?_ ?_ ?_ <;> omega)))
  · cases h
theorem c_isWord : hs_C sh 88 t_isWord := by
  refine hs_met0 (nL := 3) (n0 := 60) [] hs_F_ok (by decide +kernel) rfl rfl ?_
  intro as S post h
  unfold t_isWord at h
  split at h
  · obtain ⟨rfl, h⟩ := h
    refine ⟨Nat.le_of_ble_eq_true rfl, ?_⟩
    repeat' (first | (refine And.intro ?_ ?_) | (intro _))
    all_goals (first | omega | (dsimp only at *; omega) | (refine h _ ?_; omega) | (dsimp only at *; first | (refine h _ ?_; omega)))
  · cases h
theorem c_isSign : hs_C sh 85 t_isSign := by
  refine hs_met0 (nL := 2) (n0 := 60) [] hs_F_ok (by decide +kernel) rfl rfl ?_
  intro as S post h
  unfold t_isSign at h
  split at h
  · obtain ⟨rfl, h⟩ := h
    refine ⟨Nat.le_of_ble_eq_true rfl, ?_⟩
    repeat' (first | (refine And.intro ?_ ?_) | (intro _))
    all_goals (first | omega | (dsimp only at *; omega) | (refine h _ ?_; omega) | (dsimp only at *; first | (refine h _ ?_; omega)))
  · cases h
theorem c_textAt : hs_C sh 147 t_textAt := by
  refine hs_met0 (nL := 1) (n0 := 60) [] hs_F_ok (by decide +kernel) rfl rfl ?_
  intro as S post h
  unfold t_textAt at h
  split at h
  · refine ⟨Nat.le_of_ble_eq_true rfl, ?_⟩
    repeat' (first | (refine And.intro ?_ ?_) | (intro _))
    all_goals (first | omega | (dsimp only at *; omega) | exact h.2 | (dsimp only at *; first | exact h.2))
  · cases h
def E_2 : hs_E := hs_ad E_1 147 t_textAt
theorem e_2 : ∀ K, hs_C sh K (E_2 K) := hs_ad_ok e_1 c_textAt
theorem c_clauseAt : hs_C sh 46 t_clauseAt := by
  refine hs_met0 (nL := 2) (n0 := 60) [] e_2 (by decide +kernel) rfl rfl ?_
  intro as S post h
  unfold t_clauseAt at h
  split at h
  · refine ⟨Nat.le_of_ble_eq_true rfl, ?_⟩
    repeat' (first | (refine And.intro ?_ ?_) | (intro _))
    all_goals (first | omega | (dsimp only at *; omega) | exact h.2.2 | (dsimp only at *; first | exact h.2.2))
  · cases h
theorem c_placeAt : hs_C sh 118 t_placeAt := by
  refine hs_met0 (nL := 1) (n0 := 60) [] hs_F_ok (by decide +kernel) rfl rfl ?_
  intro as S post h
  unfold t_placeAt at h
  split at h
  · refine ⟨Nat.le_of_ble_eq_true rfl, ?_⟩
    repeat' (first | (refine And.intro ?_ ?_) | (intro _))
    all_goals (first | omega | (dsimp only at *; omega) | exact h.2 | (dsimp only at *; first | exact h.2))
  · cases h
theorem c_nameAt : hs_C sh 105 t_nameAt := by
  refine hs_met0 (nL := 1) (n0 := 60) [] hs_F_ok (by decide +kernel) rfl rfl ?_
  intro as S post h
  unfold t_nameAt at h
  split at h
  · refine ⟨Nat.le_of_ble_eq_true rfl, ?_⟩
    repeat' (first | (refine And.intro ?_ ?_) | (intro _))
    all_goals (first | omega | (dsimp only at *; omega) | exact h.2 | (dsimp only at *; first | exact h.2))
  · cases h
theorem c_told : hs_C sh 148 t_told := by
  refine hs_met0 (nL := 2) (n0 := 60) [] hs_F_ok (by decide +kernel) rfl rfl ?_
  intro as S post h
  unfold t_told at h
  split at h
  · obtain ⟨rfl, h⟩ := h
    refine ⟨Nat.le_of_ble_eq_true rfl, ?_⟩
    repeat' (first | (refine And.intro ?_ ?_) | (intro _))
    all_goals (first | omega | (dsimp only at *; omega) | exact h _ | (dsimp only at *; first | exact h _))
  · cases h
theorem c_emit : hs_C hs_sh 52 t_emit := by
  refine hs_met0 (nL := 3) (n0 := 60) [] hs_F_ok (by decide +kernel) rfl rfl ?_
  intro as S post h
  unfold t_emit at h
  split at h
  · obtain ⟨rfl, h⟩ := h
    refine ⟨Nat.le_of_ble_eq_true rfl, ?_⟩
    repeat' (first | (refine And.intro ?_ ?_) | (intro _))
    all_goals (first | omega | (dsimp only at *; omega) | exact h.2 | (dsimp only at *; first | exact h.2))
  · cases h
theorem c_push : hs_C hs_sh 121 t_push := by
  refine hs_met0 (nL := 3) (n0 := 60) [] hs_F_ok (by decide +kernel) rfl rfl ?_
  intro as S post h
  unfold t_push at h
  split at h
  · obtain ⟨rfl, h⟩ := h
    refine ⟨Nat.le_of_ble_eq_true rfl, ?_⟩
    repeat' (first | (refine And.intro ?_ ?_) | (intro _))
    all_goals (first | omega | (dsimp only at *; omega) | exact h.2 | (dsimp only at *; first | exact h.2))
  · cases h
theorem c_addFour : hs_C hs_sh 24 t_addFour := by
  refine hs_met0 (nL := 6) (n0 := 60) [] hs_F_ok (by decide +kernel) rfl rfl ?_
  intro as S post h
  unfold t_addFour at h
  split at h
  · obtain ⟨rfl, h⟩ := h
    refine ⟨Nat.le_of_ble_eq_true rfl, ?_⟩
    repeat' (first | (refine And.intro ?_ ?_) | (intro _))
    all_goals (first | omega | (dsimp only at *; omega) | exact h.2 | (dsimp only at *; first | exact h.2))
  · cases h
theorem c_isPlace : hs_C hs_sh 84 t_isPlace := by
  refine hs_met0 (nL := 2) (n0 := 60) [] e_1 (by decide +kernel) rfl rfl ?_
  intro as S post h
  unfold t_isPlace at h
  split at h
  · obtain ⟨rfl, h⟩ := h
    refine ⟨Nat.le_of_ble_eq_true rfl, ?_⟩
    repeat' (first | (refine And.intro ?_ ?_) | (intro _))
    all_goals (first | omega | (dsimp only at *; omega) | (refine h.2.1 ?_ ?_ <;> omega) | (refine h.2.2 ?_; omega) | (simp only [Int.reduceToNat] at *; first | omega | (refine h.2.1 ?_ ?_ <;> omega) | (refine h.2.2 ?_; omega)) | (dsimp only at *; first | (refine h.2.1 ?_ ?_ <;> omega) | (refine h.2.2 ?_; omega) | (simp only [Int.reduceToNat] at *; first | omega | (refine h.2.1 ?_ ?_ <;> omega) | (refine h.2.2 ?_; omega))))
  · cases h
def E_3 : hs_E := hs_ad (hs_ad (hs_ad (hs_ad (hs_ad (hs_ad (hs_ad (hs_ad (hs_ad (hs_ad (hs_ad (hs_ad (hs_ad (hs_ad E_2 78 t_isDay) 86 t_isSmall) 79 t_isDigit) 38 t_binds) 88 t_isWord) 85 t_isSign) 46 t_clauseAt) 118 t_placeAt) 105 t_nameAt) 148 t_told) 52 t_emit) 121 t_push) 24 t_addFour) 84 t_isPlace
theorem e_3 : ∀ K, hs_C hs_sh K (E_3 K) := hs_ad_ok (hs_ad_ok (hs_ad_ok (hs_ad_ok (hs_ad_ok (hs_ad_ok (hs_ad_ok (hs_ad_ok (hs_ad_ok (hs_ad_ok (hs_ad_ok (hs_ad_ok (hs_ad_ok (hs_ad_ok e_2 c_isDay) c_isSmall) c_isDigit) c_binds) c_isWord) c_isSign) c_clauseAt) c_placeAt) c_nameAt) c_told) c_emit) c_push) c_addFour) c_isPlace
end T24

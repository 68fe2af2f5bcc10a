/-! ===== small methods of the class, by hand ===== -/
def hc_F : hs_E := fun _ _ _ _ => False
theorem hc_F_ok {sh : List (Nat × Nat)} : ∀ K, hc_C sh K (hc_F K) := fun K sb l D ws tys vs sz as S post h => h.elim
theorem hc_ad_ok {sh : List (Nat × Nat)} {E : hs_E} {K : Nat} {t : hs_T} (hE : ∀ K, hc_C sh K (E K)) (ht : hc_C sh K t) : ∀ k, hc_C sh k (hs_ad E K t k) := fun k => by
  unfold hs_ad
  cases e : (k == K) with
  | true =>
    rw [cond_true]
    have := eq_of_beq e
    subst this
    exact ht
  | false => rw [cond_false]; exact hE k
/-- a method without cuts -/
theorem hc_met0 {E : hs_E} {sh : List (Nat × Nat)} {K nL n0 : Nat} {t : hs_T} (wl : List Nat) (hE : ∀ K, hc_C sh K (E K)) (hkd : ¬ (ai_T K).2.2.2.2.2.2.2 = 3) (hnL : (ai_T K).2.2.2.1 = nL) (hne : (ai_B1 K 0).isEmpty = false) (body : ∀ as S post, t as S post → (as.map hs_cat).sum ≤ nL ∧ hc_wp E wl sh post nL [] (fun _ _ _ _ => False) K n0 (ai_B1 K 0) (hs_arg 0 as) [] S) : hc_C sh K t := hc_met wl [] hE hkd hnL hne (n0 := n0) (n := 0) (fun as S post h => ⟨(body as S post h).1, fun _ _ _ _ _ => False, by
  have := (body as S post h).2
  have e : (fun (h : Nat) (lv : hs_L) (st : List hs_V) (S : hs_S) => ∃ k, hs_J ((fun _ _ _ _ _ => False : Nat → Nat → hs_L → List hs_V → hs_S → Prop) h k) lv st S) = (fun _ _ _ _ => False) := by
    funext h lv st S
    exact propext ⟨fun ⟨k, g, _, q⟩ => q, fun q => q.elim⟩
  rw [e]
  exact this, fun h hh => by cases hh⟩)
def u_isBelow : hs_T := fun as S post => match as with
  | [(0, v), (0, n)] => (0 ≤ v → v < n → post [(0, 1)] S) ∧ (¬ (0 ≤ v ∧ v < n) → post [(0, 0)] S)
  | _ => False
def u_isDay : hs_T := fun as S post => match as with
  | [(0, d)] => (0 ≤ d → d < 400 → post [(0, 1)] S) ∧ (¬ (0 ≤ d ∧ d < 400) → post [(0, 0)] S)
  | _ => False
def u_refuse : hs_T := fun as S post => match as with
  | [(4, z), (0, v)] => z = 0 ∧ post [(0, v)] (hs_up S.1 8 v, S.2)
  | _ => False
def u_tab (z : Int) : Prop := z = 14 ∨ z = 16 ∨ z = 18 ∨ z = 22
def u_size : hs_T := fun as S post => match as with
  | [(4, z)] => u_tab z ∧ post [(0, S.1 (64 * z.toNat + 3))] S
  | _ => False
def u_has : hs_T := fun as S post => match as with
  | [(4, z), (0, i)] => u_tab z ∧ (0 ≤ i → i < S.1 (64 * z.toNat + 3) → post [(0, 1)] S) ∧ (¬ (0 ≤ i ∧ i < S.1 (64 * z.toNat + 3)) → post [(0, 0)] S)
  | _ => False
section U24
variable {sh : List (Nat × Nat)}
theorem d_isBelow : hc_C sh 327 u_isBelow := by
  refine hc_met0 (nL := 2) (n0 := 30) [] hc_F_ok (by decide +kernel) rfl rfl ?_
  intro as S post h
  unfold u_isBelow at h
  split at h
  · refine ⟨Nat.le_of_ble_eq_true rfl, ?_⟩
    repeat' (first | (refine And.intro ?_ ?_) | (intro _))
    all_goals (first | omega | (refine h.1 ?_ ?_ <;> omega) | (refine h.2 ?_; omega))
  · cases h
def Ec_1 : hs_E := hs_ad hc_F 327 u_isBelow
theorem ec_1 : ∀ K, hc_C sh K (Ec_1 K) := hc_ad_ok hc_F_ok d_isBelow
theorem d_isDay : hc_C sh 328 u_isDay := by
  refine hc_met0 (nL := 1) (n0 := 60) [] ec_1 (by decide +kernel) rfl rfl ?_
  intro as S post h
  unfold u_isDay at h
  split at h
  · refine ⟨Nat.le_of_ble_eq_true rfl, ?_⟩
    repeat' (first | (refine And.intro ?_ ?_) | (intro _))
    all_goals (first | omega | (dsimp only at *; omega) | (refine h.1 ?_ ?_ <;> omega) | (refine h.2 ?_; omega) | (dsimp only at *; first | (refine h.1 ?_ ?_ <;> omega) | (refine h.2 ?_; omega)))
  · cases h
theorem d_refuse : hc_C sh 344 u_refuse := by
  refine hc_met0 (nL := 2) (n0 := 60) [] ec_1 (by decide +kernel) rfl rfl ?_
  intro as S post h
  unfold u_refuse at h
  split at h
  · obtain ⟨rfl, h⟩ := h
    refine ⟨Nat.le_of_ble_eq_true rfl, ?_⟩
    repeat' (first | (refine And.intro ?_ ?_) | (intro _))
    all_goals (first | omega | exact h | (dsimp only at *; omega))
  · cases h
theorem d_size : hc_C sh 232 u_size := by
  refine hc_met0 (nL := 1) (n0 := 60) [] ec_1 (by decide +kernel) rfl rfl ?_
  intro as S post h
  unfold u_size at h
  split at h
  · obtain ⟨hz, h⟩ := h
    refine ⟨Nat.le_of_ble_eq_true rfl, ?_⟩
    rcases hz with rfl | rfl | rfl | rfl
    all_goals repeat' (first | (refine And.intro ?_ ?_) | (intro _))
    all_goals (first | omega | exact h | (dsimp only at *; omega))
  · cases h
theorem d_has : hc_C sh 227 u_has := by
  refine hc_met0 (nL := 2) (n0 := 60) [] ec_1 (by decide +kernel) rfl rfl ?_
  intro as S post h
  unfold u_has at h
  split at h
  · obtain ⟨hz, h1, h2⟩ := h
    refine ⟨Nat.le_of_ble_eq_true rfl, ?_⟩
    rcases hz with rfl | rfl | rfl | rfl
    all_goals repeat' (first | (refine And.intro ?_ ?_) | (intro _))
    all_goals (first | omega | (refine h1 ?_ ?_ <;> first | omega | (dsimp only at *; omega) | assumption) | (refine h2 ?_; first | omega | (dsimp only at *; omega)))
  · cases h
end U24

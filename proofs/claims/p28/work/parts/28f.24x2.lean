/-! ===== the class's tables, by hand (by wip/gen/mkhc2.py) ===== -/
def u_forget : hs_T := fun as S post => match as with
  | [(4, z)] => z = 31 ∧ post [] (hs_up S.1 1988 0, S.2)
  | _ => False
def u_accept : hs_T := fun as S post => match as with
  | [(4, z), (0, v)] => z = 0 ∧ post [(0, v)] (hs_up (hs_up S.1 8 0) 1988 0, S.2)
  | _ => False
/-- a table's width, most, size -/
def u_Tb (S : hs_S) (k : Nat) (w n : Int) : Prop := S.1 (64 * k) = w ∧ S.1 (64 * k + 1) = n ∧ 0 ≤ S.1 (64 * k + 3) ∧ S.1 (64 * k + 3) ≤ n
def u_all (P : Nat → Int → Int → Prop) (z : Int) : Prop := match z with
  | .ofNat 14 => P 14 4 20
  | .ofNat 16 => P 16 2 40
  | .ofNat 18 => P 18 5 200
  | .ofNat 22 => P 22 5 200
  | _ => False
/-- what a table's get answers -/
def ug (S : hs_S) (k : Nat) (w i j : Int) : Int := if 0 ≤ i ∧ i < S.1 (64 * k + 3) ∧ 0 ≤ j ∧ j < w then S.2 (k + 1) (i * w + j).toNat else -1
def u_get : hs_T := fun as S post => match as with
  | [(4, z), (0, i), (0, j)] => u_all (fun k w n => u_Tb S k w n ∧ post [(0, ug S k w i j)] S) z
  | _ => False
def u_set : hs_T := fun as S post => match as with
  | [(4, z), (0, i), (0, j), (0, v)] => u_all (fun k w n => u_Tb S k w n ∧ (0 ≤ i ∧ i < S.1 (64 * k + 3) ∧ 0 ≤ j ∧ j < w) ∧ post [] (S.1, hs_ua S.2 (k + 1) (i * w + j).toNat v)) z
  | _ => False
/-- but for the places of a row of a table all is as it was -/
def u_ad (S : hs_S) (k : Nat) (a b : Int) (A : Nat → Nat → Int) : Prop := (∀ c, ¬ c = k → A c = S.2 c) ∧ ∀ j : Nat, ((j : Int) < a ∨ b ≤ (j : Int)) → A k j = S.2 k j
theorem u_ad.put {S : hs_S} {k : Nat} {a b : Int} {A : Nat → Nat → Int} {v : Int} (ha : 0 ≤ a) (hb : a ≤ b) (h : u_ad S k a b A) : u_ad S k a (b + 1) (hs_ua A k b.toNat v) := by
  refine ⟨fun c hc => by rw [hs_ua_ne hc]; exact h.1 c hc, fun j hj => ?_⟩
  rw [hs_ua_k, if_neg (by omega)]
  exact h.2 j (by omega)
def u_add : hs_T := fun as S post => match as with
  | [(4, z)] => u_all (fun k w n => u_Tb S k w n ∧ (n ≤ S.1 (64 * k + 3) → post [(0, -1)] S) ∧ (S.1 (64 * k + 3) < n → ∀ A, u_ad S (k + 1) (S.1 (64 * k + 3) * w) (S.1 (64 * k + 3) * w + w) A → post [(0, S.1 (64 * k + 3))] (hs_up S.1 (64 * k + 3) (S.1 (64 * k + 3) + 1), A))) z
  | _ => False
section V24
theorem d_forget : hc_C hc_sh 268 u_forget := by
  refine hc_met0 (nL := 1) (n0 := 60) [] ec_1 (by decide +kernel) rfl rfl ?_
  intro as S post h
  unfold u_forget at h
  split at h
  · obtain ⟨rfl, h⟩ := h
    refine ⟨Nat.le_of_ble_eq_true rfl, ?_⟩
    repeat' (first | (refine And.intro ?_ ?_) | (intro _))
    all_goals (first | omega | exact h | exact Or.inl rfl | (dsimp only at *; omega))
  · cases h
def Ec_2 : hs_E := hs_ad (hs_ad (hs_ad (hs_ad (hs_ad Ec_1 328 u_isDay) 344 u_refuse) 232 u_size) 227 u_has) 268 u_forget
theorem ec_2 : ∀ K, hc_C hc_sh K (Ec_2 K) := hc_ad_ok (hc_ad_ok (hc_ad_ok (hc_ad_ok (hc_ad_ok ec_1 d_isDay) d_refuse) d_size) d_has) d_forget
theorem d_accept : hc_C hc_sh 300 u_accept := by
  refine hc_met0 (nL := 2) (n0 := 60) [] ec_2 (by decide +kernel) rfl rfl ?_
  intro as S post h
  unfold u_accept at h
  split at h
  · obtain ⟨rfl, h⟩ := h
    refine ⟨Nat.le_of_ble_eq_true rfl, ?_⟩
    repeat' (first | (refine And.intro ?_ ?_) | (intro _))
    all_goals (first | omega | exact h | rfl | (dsimp only at *; omega))
  · cases h
theorem d_get : hc_C hc_sh 226 u_get := by
  refine hc_met0 (nL := 3) (n0 := 60) [] ec_2 (by decide +kernel) rfl rfl ?_
  intro as S post h
  unfold u_get at h
  split at h
  · rename_i z i j
    refine ⟨Nat.le_of_ble_eq_true rfl, ?_⟩
    unfold u_all at h
    split at h
    · obtain ⟨⟨w1, -, w3, w4⟩, p⟩ := h
      have w1 : S.1 896 = 4 := w1
      have w3 : 0 ≤ S.1 899 := w3
      have w4 : S.1 899 ≤ 20 := w4
      have p0 : ¬ (0 ≤ i ∧ i < S.1 899 ∧ 0 ≤ j ∧ j < 4) → post [(0, -1)] S := fun hn => by
        have e : ug S 14 4 i j = -1 := if_neg hn
        rw [← e]
        exact p
      have p1 : 0 ≤ i → i < S.1 899 → 0 ≤ j → j < 4 → post [(0, S.2 15 (i * S.1 896 + j).toNat)] S := fun h1 h2 h3 h4 => by
        have e : ug S 14 4 i j = S.2 15 (i * 4 + j).toNat := if_pos ⟨h1, h2, h3, h4⟩
        rw [w1, ← e]
        exact p
      clear p
      have g1 : i < 0 → post [(0, -1)] S := fun _ => p0 (by omega)
      have g2 : S.1 899 ≤ i → post [(0, -1)] S := fun _ => p0 (by omega)
      have g3 : j < 0 → post [(0, -1)] S := fun _ => p0 (by omega)
      have g4 : S.1 896 ≤ j → post [(0, -1)] S := fun _ => p0 (by omega)
      refine And.intro g1 (fun h1 => And.intro g2 (fun h2 => And.intro g3 (fun h3 => And.intro (fun h4 => ?_) (fun h4 => g4 ?_))))
      · have h1 : ¬ i < 0 := h1
        have h2 : ¬ S.1 899 ≤ i := h2
        have h3 : ¬ j < 0 := h3
        have h4 : j < S.1 896 := h4
        refine And.intro ?_ (And.intro ?_ (And.intro ?_ (p1 ?_ ?_ ?_ ?_)))
        · show -2147483648 ≤ i * S.1 896 ∧ i * S.1 896 ≤ 2147483647
          rw [w1]; omega
        · show -2147483648 ≤ i * S.1 896 + j ∧ i * S.1 896 + j ≤ 2147483647
          rw [w1] at h4 ⊢; omega
        · show 0 ≤ i * S.1 896 + j ∧ i * S.1 896 + j < (80 : Nat)
          rw [w1] at h4 ⊢; omega
        all_goals omega
      · have h4 : ¬ j < S.1 896 := h4
        show S.1 896 ≤ j
        omega
    · obtain ⟨⟨w1, -, w3, w4⟩, p⟩ := h
      have w1 : S.1 1024 = 2 := w1
      have w3 : 0 ≤ S.1 1027 := w3
      have w4 : S.1 1027 ≤ 40 := w4
      have p0 : ¬ (0 ≤ i ∧ i < S.1 1027 ∧ 0 ≤ j ∧ j < 2) → post [(0, -1)] S := fun hn => by
        have e : ug S 16 2 i j = -1 := if_neg hn
        rw [← e]
        exact p
      have p1 : 0 ≤ i → i < S.1 1027 → 0 ≤ j → j < 2 → post [(0, S.2 17 (i * S.1 1024 + j).toNat)] S := fun h1 h2 h3 h4 => by
        have e : ug S 16 2 i j = S.2 17 (i * 2 + j).toNat := if_pos ⟨h1, h2, h3, h4⟩
        rw [w1, ← e]
        exact p
      clear p
      have g1 : i < 0 → post [(0, -1)] S := fun _ => p0 (by omega)
      have g2 : S.1 1027 ≤ i → post [(0, -1)] S := fun _ => p0 (by omega)
      have g3 : j < 0 → post [(0, -1)] S := fun _ => p0 (by omega)
      have g4 : S.1 1024 ≤ j → post [(0, -1)] S := fun _ => p0 (by omega)
      refine And.intro g1 (fun h1 => And.intro g2 (fun h2 => And.intro g3 (fun h3 => And.intro (fun h4 => ?_) (fun h4 => g4 ?_))))
      · have h1 : ¬ i < 0 := h1
        have h2 : ¬ S.1 1027 ≤ i := h2
        have h3 : ¬ j < 0 := h3
        have h4 : j < S.1 1024 := h4
        refine And.intro ?_ (And.intro ?_ (And.intro ?_ (p1 ?_ ?_ ?_ ?_)))
        · show -2147483648 ≤ i * S.1 1024 ∧ i * S.1 1024 ≤ 2147483647
          rw [w1]; omega
        · show -2147483648 ≤ i * S.1 1024 + j ∧ i * S.1 1024 + j ≤ 2147483647
          rw [w1] at h4 ⊢; omega
        · show 0 ≤ i * S.1 1024 + j ∧ i * S.1 1024 + j < (80 : Nat)
          rw [w1] at h4 ⊢; omega
        all_goals omega
      · have h4 : ¬ j < S.1 1024 := h4
        show S.1 1024 ≤ j
        omega
    · obtain ⟨⟨w1, -, w3, w4⟩, p⟩ := h
      have w1 : S.1 1152 = 5 := w1
      have w3 : 0 ≤ S.1 1155 := w3
      have w4 : S.1 1155 ≤ 200 := w4
      have p0 : ¬ (0 ≤ i ∧ i < S.1 1155 ∧ 0 ≤ j ∧ j < 5) → post [(0, -1)] S := fun hn => by
        have e : ug S 18 5 i j = -1 := if_neg hn
        rw [← e]
        exact p
      have p1 : 0 ≤ i → i < S.1 1155 → 0 ≤ j → j < 5 → post [(0, S.2 19 (i * S.1 1152 + j).toNat)] S := fun h1 h2 h3 h4 => by
        have e : ug S 18 5 i j = S.2 19 (i * 5 + j).toNat := if_pos ⟨h1, h2, h3, h4⟩
        rw [w1, ← e]
        exact p
      clear p
      have g1 : i < 0 → post [(0, -1)] S := fun _ => p0 (by omega)
      have g2 : S.1 1155 ≤ i → post [(0, -1)] S := fun _ => p0 (by omega)
      have g3 : j < 0 → post [(0, -1)] S := fun _ => p0 (by omega)
      have g4 : S.1 1152 ≤ j → post [(0, -1)] S := fun _ => p0 (by omega)
      refine And.intro g1 (fun h1 => And.intro g2 (fun h2 => And.intro g3 (fun h3 => And.intro (fun h4 => ?_) (fun h4 => g4 ?_))))
      · have h1 : ¬ i < 0 := h1
        have h2 : ¬ S.1 1155 ≤ i := h2
        have h3 : ¬ j < 0 := h3
        have h4 : j < S.1 1152 := h4
        refine And.intro ?_ (And.intro ?_ (And.intro ?_ (p1 ?_ ?_ ?_ ?_)))
        · show -2147483648 ≤ i * S.1 1152 ∧ i * S.1 1152 ≤ 2147483647
          rw [w1]; omega
        · show -2147483648 ≤ i * S.1 1152 + j ∧ i * S.1 1152 + j ≤ 2147483647
          rw [w1] at h4 ⊢; omega
        · show 0 ≤ i * S.1 1152 + j ∧ i * S.1 1152 + j < (1000 : Nat)
          rw [w1] at h4 ⊢; omega
        all_goals omega
      · have h4 : ¬ j < S.1 1152 := h4
        show S.1 1152 ≤ j
        omega
    · obtain ⟨⟨w1, -, w3, w4⟩, p⟩ := h
      have w1 : S.1 1408 = 5 := w1
      have w3 : 0 ≤ S.1 1411 := w3
      have w4 : S.1 1411 ≤ 200 := w4
      have p0 : ¬ (0 ≤ i ∧ i < S.1 1411 ∧ 0 ≤ j ∧ j < 5) → post [(0, -1)] S := fun hn => by
        have e : ug S 22 5 i j = -1 := if_neg hn
        rw [← e]
        exact p
      have p1 : 0 ≤ i → i < S.1 1411 → 0 ≤ j → j < 5 → post [(0, S.2 23 (i * S.1 1408 + j).toNat)] S := fun h1 h2 h3 h4 => by
        have e : ug S 22 5 i j = S.2 23 (i * 5 + j).toNat := if_pos ⟨h1, h2, h3, h4⟩
        rw [w1, ← e]
        exact p
      clear p
      have g1 : i < 0 → post [(0, -1)] S := fun _ => p0 (by omega)
      have g2 : S.1 1411 ≤ i → post [(0, -1)] S := fun _ => p0 (by omega)
      have g3 : j < 0 → post [(0, -1)] S := fun _ => p0 (by omega)
      have g4 : S.1 1408 ≤ j → post [(0, -1)] S := fun _ => p0 (by omega)
      refine And.intro g1 (fun h1 => And.intro g2 (fun h2 => And.intro g3 (fun h3 => And.intro (fun h4 => ?_) (fun h4 => g4 ?_))))
      · have h1 : ¬ i < 0 := h1
        have h2 : ¬ S.1 1411 ≤ i := h2
        have h3 : ¬ j < 0 := h3
        have h4 : j < S.1 1408 := h4
        refine And.intro ?_ (And.intro ?_ (And.intro ?_ (p1 ?_ ?_ ?_ ?_)))
        · show -2147483648 ≤ i * S.1 1408 ∧ i * S.1 1408 ≤ 2147483647
          rw [w1]; omega
        · show -2147483648 ≤ i * S.1 1408 + j ∧ i * S.1 1408 + j ≤ 2147483647
          rw [w1] at h4 ⊢; omega
        · show 0 ≤ i * S.1 1408 + j ∧ i * S.1 1408 + j < (1000 : Nat)
          rw [w1] at h4 ⊢; omega
        all_goals omega
      · have h4 : ¬ j < S.1 1408 := h4
        show S.1 1408 ≤ j
        omega
    · cases h
  · cases h
theorem d_set : hc_C hc_sh 231 u_set := by
  refine hc_met0 (nL := 4) (n0 := 60) [] ec_2 (by decide +kernel) rfl rfl ?_
  intro as S post h
  unfold u_set at h
  split at h
  · rename_i z i j v
    refine ⟨Nat.le_of_ble_eq_true rfl, ?_⟩
    unfold u_all at h
    split at h
    · obtain ⟨⟨w1, -, w3, w4⟩, ⟨h1, h2, h3, h4⟩, p⟩ := h
      have w1 : S.1 896 = 4 := w1
      have w3 : 0 ≤ S.1 899 := w3
      have w4 : S.1 899 ≤ 20 := w4
      have h2 : i < S.1 899 := h2
      have p1 : post [] (S.1, hs_ua S.2 15 (i * S.1 896 + j).toNat v) := by
        rw [w1]
        exact p
      clear p
      refine And.intro (fun g => ?_) (fun _ => And.intro (fun g => ?_) (fun g => And.intro (fun g => ?_) (fun g => And.intro (fun g => ?_) (fun g => ?_))))
      · have g : i < 0 := g
        omega
      · have g : S.1 899 ≤ i := g
        omega
      · have g : j < 0 := g
        omega
      · have g : S.1 896 ≤ j := g
        omega
      · refine And.intro ?_ (And.intro ?_ (And.intro ?_ p1))
        · show -2147483648 ≤ i * S.1 896 ∧ i * S.1 896 ≤ 2147483647
          rw [w1]; omega
        · show -2147483648 ≤ i * S.1 896 + j ∧ i * S.1 896 + j ≤ 2147483647
          rw [w1]; omega
        · show 0 ≤ i * S.1 896 + j ∧ i * S.1 896 + j < (80 : Nat)
          rw [w1]; omega
    · obtain ⟨⟨w1, -, w3, w4⟩, ⟨h1, h2, h3, h4⟩, p⟩ := h
      have w1 : S.1 1024 = 2 := w1
      have w3 : 0 ≤ S.1 1027 := w3
      have w4 : S.1 1027 ≤ 40 := w4
      have h2 : i < S.1 1027 := h2
      have p1 : post [] (S.1, hs_ua S.2 17 (i * S.1 1024 + j).toNat v) := by
        rw [w1]
        exact p
      clear p
      refine And.intro (fun g => ?_) (fun _ => And.intro (fun g => ?_) (fun g => And.intro (fun g => ?_) (fun g => And.intro (fun g => ?_) (fun g => ?_))))
      · have g : i < 0 := g
        omega
      · have g : S.1 1027 ≤ i := g
        omega
      · have g : j < 0 := g
        omega
      · have g : S.1 1024 ≤ j := g
        omega
      · refine And.intro ?_ (And.intro ?_ (And.intro ?_ p1))
        · show -2147483648 ≤ i * S.1 1024 ∧ i * S.1 1024 ≤ 2147483647
          rw [w1]; omega
        · show -2147483648 ≤ i * S.1 1024 + j ∧ i * S.1 1024 + j ≤ 2147483647
          rw [w1]; omega
        · show 0 ≤ i * S.1 1024 + j ∧ i * S.1 1024 + j < (80 : Nat)
          rw [w1]; omega
    · obtain ⟨⟨w1, -, w3, w4⟩, ⟨h1, h2, h3, h4⟩, p⟩ := h
      have w1 : S.1 1152 = 5 := w1
      have w3 : 0 ≤ S.1 1155 := w3
      have w4 : S.1 1155 ≤ 200 := w4
      have h2 : i < S.1 1155 := h2
      have p1 : post [] (S.1, hs_ua S.2 19 (i * S.1 1152 + j).toNat v) := by
        rw [w1]
        exact p
      clear p
      refine And.intro (fun g => ?_) (fun _ => And.intro (fun g => ?_) (fun g => And.intro (fun g => ?_) (fun g => And.intro (fun g => ?_) (fun g => ?_))))
      · have g : i < 0 := g
        omega
      · have g : S.1 1155 ≤ i := g
        omega
      · have g : j < 0 := g
        omega
      · have g : S.1 1152 ≤ j := g
        omega
      · refine And.intro ?_ (And.intro ?_ (And.intro ?_ p1))
        · show -2147483648 ≤ i * S.1 1152 ∧ i * S.1 1152 ≤ 2147483647
          rw [w1]; omega
        · show -2147483648 ≤ i * S.1 1152 + j ∧ i * S.1 1152 + j ≤ 2147483647
          rw [w1]; omega
        · show 0 ≤ i * S.1 1152 + j ∧ i * S.1 1152 + j < (1000 : Nat)
          rw [w1]; omega
    · obtain ⟨⟨w1, -, w3, w4⟩, ⟨h1, h2, h3, h4⟩, p⟩ := h
      have w1 : S.1 1408 = 5 := w1
      have w3 : 0 ≤ S.1 1411 := w3
      have w4 : S.1 1411 ≤ 200 := w4
      have h2 : i < S.1 1411 := h2
      have p1 : post [] (S.1, hs_ua S.2 23 (i * S.1 1408 + j).toNat v) := by
        rw [w1]
        exact p
      clear p
      refine And.intro (fun g => ?_) (fun _ => And.intro (fun g => ?_) (fun g => And.intro (fun g => ?_) (fun g => And.intro (fun g => ?_) (fun g => ?_))))
      · have g : i < 0 := g
        omega
      · have g : S.1 1411 ≤ i := g
        omega
      · have g : j < 0 := g
        omega
      · have g : S.1 1408 ≤ j := g
        omega
      · refine And.intro ?_ (And.intro ?_ (And.intro ?_ p1))
        · show -2147483648 ≤ i * S.1 1408 ∧ i * S.1 1408 ≤ 2147483647
          rw [w1]; omega
        · show -2147483648 ≤ i * S.1 1408 + j ∧ i * S.1 1408 + j ≤ 2147483647
          rw [w1]; omega
        · show 0 ≤ i * S.1 1408 + j ∧ i * S.1 1408 + j < (1000 : Nat)
          rw [w1]; omega
    · cases h
  · cases h
theorem d_add : hc_C hc_sh 224 u_add := by
  refine hc_met (nL := 2) (n0 := 60) (n := 60) [] [23] ec_2 (by decide +kernel) rfl rfl ?_
  intro as S post h
  unfold u_add at h
  split at h
  · rename_i z
    unfold u_all at h
    split at h
    · obtain ⟨⟨w1, w2, w3, w4⟩, p1, p2⟩ := h
      have w1 : S.1 896 = 4 := w1
      have w2 : S.1 897 = 20 := w2
      have w3 : 0 ≤ S.1 899 := w3
      have w4 : S.1 899 ≤ 20 := w4
      have p1 : 20 ≤ S.1 899 → post [(0, -1)] S := p1
      have p2 : S.1 899 < 20 → ∀ A, u_ad S 15 (S.1 899 * 4) (S.1 899 * 4 + 4) A → post [(0, S.1 899)] (hs_up S.1 899 (S.1 899 + 1), A) := p2
      refine ⟨Nat.le_of_ble_eq_true rfl, fun hh k g st S' => st = [] ∧ S.1 899 < 20 ∧ ∃ b A, g = [(0, (4, 14)), (1, (0, b))] ∧ S' = (S.1, A) ∧ (S.1 899 * 4 ≤ b ∧ b ≤ S.1 899 * 4 + 4) ∧ u_ad S 15 (S.1 899 * 4) b A ∧ S.1 899 * 4 + 4 - b ≤ (k : Int), ?_, ?_⟩
      · refine And.intro (fun g1 => ?_) (fun g1 => ?_)
        · have g2 : S.1 899 < S.1 897 := g1
          refine And.intro ?_ (Exists.intro 100 (Exists.intro [(0, (4, 14)), (1, (0, S.1 899 * S.1 896))] (And.intro (And.intro rfl (And.intro rfl trivial)) (And.intro rfl (And.intro (by omega) (Exists.intro (S.1 899 * S.1 896) (Exists.intro S.2 (And.intro rfl (And.intro rfl ?_)))))))))
          · show -2147483648 ≤ S.1 899 * S.1 896 ∧ S.1 899 * S.1 896 ≤ 2147483647
            rw [w1]; omega
          · rw [w1]
            exact ⟨⟨by omega, by omega⟩, ⟨fun _ _ => rfl, fun _ _ => rfl⟩, by omega⟩
        · have g2 : ¬ S.1 899 < S.1 897 := g1
          exact p1 (by omega)
      · intro hh hm
        simp only [List.mem_cons, List.not_mem_nil, or_false] at hm
        subst hm
        intro k g st S' hI
        obtain ⟨rfl, hs, b, A, rfl, rfl, hb, hA, hk⟩ := hI
        refine And.intro ?_ (And.intro ?_ (And.intro (fun g1 => ?_) (fun g1 => ?_)))
        · show -2147483648 ≤ S.1 899 + 1 ∧ S.1 899 + 1 ≤ 2147483647
          omega
        · show -2147483648 ≤ (S.1 899 + 1) * S.1 896 ∧ (S.1 899 + 1) * S.1 896 ≤ 2147483647
          rw [w1]; omega
        · have g2 : (S.1 899 + 1) * S.1 896 ≤ b := g1
          rw [w1] at g2
          have eb : b = S.1 899 * 4 + 4 := by omega
          refine And.intro ?_ (And.intro ?_ ?_)
          · show -2147483648 ≤ S.1 899 + 1 ∧ S.1 899 + 1 ≤ 2147483647
            omega
          · show -2147483648 ≤ S.1 899 + 1 - 1 ∧ S.1 899 + 1 - 1 ≤ 2147483647
            omega
          · show post [(0, S.1 899 + 1 - 1)] (hs_up S.1 899 (S.1 899 + 1), A)
            rw [show S.1 899 + 1 - 1 = S.1 899 by omega]
            rw [eb] at hA
            exact p2 hs A hA
        · have g2 : ¬ (S.1 899 + 1) * S.1 896 ≤ b := g1
          rw [w1] at g2
          refine And.intro ?_ (And.intro ?_ (Exists.intro (k - 1) (And.intro (by omega) (Exists.intro [(0, (4, 14)), (1, (0, b + 1))] (And.intro (And.intro rfl (And.intro rfl trivial)) (And.intro rfl (And.intro hs (Exists.intro (b + 1) (Exists.intro (hs_ua A 15 b.toNat (-1)) (And.intro rfl (And.intro rfl (And.intro (And.intro (by omega) (by omega)) (And.intro (u_ad.put (by omega) hb.1 hA) (by omega))))))))))))))
          · show 0 ≤ b ∧ b < (80 : Nat)
            omega
          · show -2147483648 ≤ b + 1 ∧ b + 1 ≤ 2147483647
            omega
    · obtain ⟨⟨w1, w2, w3, w4⟩, p1, p2⟩ := h
      have w1 : S.1 1024 = 2 := w1
      have w2 : S.1 1025 = 40 := w2
      have w3 : 0 ≤ S.1 1027 := w3
      have w4 : S.1 1027 ≤ 40 := w4
      have p1 : 40 ≤ S.1 1027 → post [(0, -1)] S := p1
      have p2 : S.1 1027 < 40 → ∀ A, u_ad S 17 (S.1 1027 * 2) (S.1 1027 * 2 + 2) A → post [(0, S.1 1027)] (hs_up S.1 1027 (S.1 1027 + 1), A) := p2
      refine ⟨Nat.le_of_ble_eq_true rfl, fun hh k g st S' => st = [] ∧ S.1 1027 < 40 ∧ ∃ b A, g = [(0, (4, 16)), (1, (0, b))] ∧ S' = (S.1, A) ∧ (S.1 1027 * 2 ≤ b ∧ b ≤ S.1 1027 * 2 + 2) ∧ u_ad S 17 (S.1 1027 * 2) b A ∧ S.1 1027 * 2 + 2 - b ≤ (k : Int), ?_, ?_⟩
      · refine And.intro (fun g1 => ?_) (fun g1 => ?_)
        · have g2 : S.1 1027 < S.1 1025 := g1
          refine And.intro ?_ (Exists.intro 100 (Exists.intro [(0, (4, 16)), (1, (0, S.1 1027 * S.1 1024))] (And.intro (And.intro rfl (And.intro rfl trivial)) (And.intro rfl (And.intro (by omega) (Exists.intro (S.1 1027 * S.1 1024) (Exists.intro S.2 (And.intro rfl (And.intro rfl ?_)))))))))
          · show -2147483648 ≤ S.1 1027 * S.1 1024 ∧ S.1 1027 * S.1 1024 ≤ 2147483647
            rw [w1]; omega
          · rw [w1]
            exact ⟨⟨by omega, by omega⟩, ⟨fun _ _ => rfl, fun _ _ => rfl⟩, by omega⟩
        · have g2 : ¬ S.1 1027 < S.1 1025 := g1
          exact p1 (by omega)
      · intro hh hm
        simp only [List.mem_cons, List.not_mem_nil, or_false] at hm
        subst hm
        intro k g st S' hI
        obtain ⟨rfl, hs, b, A, rfl, rfl, hb, hA, hk⟩ := hI
        refine And.intro ?_ (And.intro ?_ (And.intro (fun g1 => ?_) (fun g1 => ?_)))
        · show -2147483648 ≤ S.1 1027 + 1 ∧ S.1 1027 + 1 ≤ 2147483647
          omega
        · show -2147483648 ≤ (S.1 1027 + 1) * S.1 1024 ∧ (S.1 1027 + 1) * S.1 1024 ≤ 2147483647
          rw [w1]; omega
        · have g2 : (S.1 1027 + 1) * S.1 1024 ≤ b := g1
          rw [w1] at g2
          have eb : b = S.1 1027 * 2 + 2 := by omega
          refine And.intro ?_ (And.intro ?_ ?_)
          · show -2147483648 ≤ S.1 1027 + 1 ∧ S.1 1027 + 1 ≤ 2147483647
            omega
          · show -2147483648 ≤ S.1 1027 + 1 - 1 ∧ S.1 1027 + 1 - 1 ≤ 2147483647
            omega
          · show post [(0, S.1 1027 + 1 - 1)] (hs_up S.1 1027 (S.1 1027 + 1), A)
            rw [show S.1 1027 + 1 - 1 = S.1 1027 by omega]
            rw [eb] at hA
            exact p2 hs A hA
        · have g2 : ¬ (S.1 1027 + 1) * S.1 1024 ≤ b := g1
          rw [w1] at g2
          refine And.intro ?_ (And.intro ?_ (Exists.intro (k - 1) (And.intro (by omega) (Exists.intro [(0, (4, 16)), (1, (0, b + 1))] (And.intro (And.intro rfl (And.intro rfl trivial)) (And.intro rfl (And.intro hs (Exists.intro (b + 1) (Exists.intro (hs_ua A 17 b.toNat (-1)) (And.intro rfl (And.intro rfl (And.intro (And.intro (by omega) (by omega)) (And.intro (u_ad.put (by omega) hb.1 hA) (by omega))))))))))))))
          · show 0 ≤ b ∧ b < (80 : Nat)
            omega
          · show -2147483648 ≤ b + 1 ∧ b + 1 ≤ 2147483647
            omega
    · obtain ⟨⟨w1, w2, w3, w4⟩, p1, p2⟩ := h
      have w1 : S.1 1152 = 5 := w1
      have w2 : S.1 1153 = 200 := w2
      have w3 : 0 ≤ S.1 1155 := w3
      have w4 : S.1 1155 ≤ 200 := w4
      have p1 : 200 ≤ S.1 1155 → post [(0, -1)] S := p1
      have p2 : S.1 1155 < 200 → ∀ A, u_ad S 19 (S.1 1155 * 5) (S.1 1155 * 5 + 5) A → post [(0, S.1 1155)] (hs_up S.1 1155 (S.1 1155 + 1), A) := p2
      refine ⟨Nat.le_of_ble_eq_true rfl, fun hh k g st S' => st = [] ∧ S.1 1155 < 200 ∧ ∃ b A, g = [(0, (4, 18)), (1, (0, b))] ∧ S' = (S.1, A) ∧ (S.1 1155 * 5 ≤ b ∧ b ≤ S.1 1155 * 5 + 5) ∧ u_ad S 19 (S.1 1155 * 5) b A ∧ S.1 1155 * 5 + 5 - b ≤ (k : Int), ?_, ?_⟩
      · refine And.intro (fun g1 => ?_) (fun g1 => ?_)
        · have g2 : S.1 1155 < S.1 1153 := g1
          refine And.intro ?_ (Exists.intro 100 (Exists.intro [(0, (4, 18)), (1, (0, S.1 1155 * S.1 1152))] (And.intro (And.intro rfl (And.intro rfl trivial)) (And.intro rfl (And.intro (by omega) (Exists.intro (S.1 1155 * S.1 1152) (Exists.intro S.2 (And.intro rfl (And.intro rfl ?_)))))))))
          · show -2147483648 ≤ S.1 1155 * S.1 1152 ∧ S.1 1155 * S.1 1152 ≤ 2147483647
            rw [w1]; omega
          · rw [w1]
            exact ⟨⟨by omega, by omega⟩, ⟨fun _ _ => rfl, fun _ _ => rfl⟩, by omega⟩
        · have g2 : ¬ S.1 1155 < S.1 1153 := g1
          exact p1 (by omega)
      · intro hh hm
        simp only [List.mem_cons, List.not_mem_nil, or_false] at hm
        subst hm
        intro k g st S' hI
        obtain ⟨rfl, hs, b, A, rfl, rfl, hb, hA, hk⟩ := hI
        refine And.intro ?_ (And.intro ?_ (And.intro (fun g1 => ?_) (fun g1 => ?_)))
        · show -2147483648 ≤ S.1 1155 + 1 ∧ S.1 1155 + 1 ≤ 2147483647
          omega
        · show -2147483648 ≤ (S.1 1155 + 1) * S.1 1152 ∧ (S.1 1155 + 1) * S.1 1152 ≤ 2147483647
          rw [w1]; omega
        · have g2 : (S.1 1155 + 1) * S.1 1152 ≤ b := g1
          rw [w1] at g2
          have eb : b = S.1 1155 * 5 + 5 := by omega
          refine And.intro ?_ (And.intro ?_ ?_)
          · show -2147483648 ≤ S.1 1155 + 1 ∧ S.1 1155 + 1 ≤ 2147483647
            omega
          · show -2147483648 ≤ S.1 1155 + 1 - 1 ∧ S.1 1155 + 1 - 1 ≤ 2147483647
            omega
          · show post [(0, S.1 1155 + 1 - 1)] (hs_up S.1 1155 (S.1 1155 + 1), A)
            rw [show S.1 1155 + 1 - 1 = S.1 1155 by omega]
            rw [eb] at hA
            exact p2 hs A hA
        · have g2 : ¬ (S.1 1155 + 1) * S.1 1152 ≤ b := g1
          rw [w1] at g2
          refine And.intro ?_ (And.intro ?_ (Exists.intro (k - 1) (And.intro (by omega) (Exists.intro [(0, (4, 18)), (1, (0, b + 1))] (And.intro (And.intro rfl (And.intro rfl trivial)) (And.intro rfl (And.intro hs (Exists.intro (b + 1) (Exists.intro (hs_ua A 19 b.toNat (-1)) (And.intro rfl (And.intro rfl (And.intro (And.intro (by omega) (by omega)) (And.intro (u_ad.put (by omega) hb.1 hA) (by omega))))))))))))))
          · show 0 ≤ b ∧ b < (1000 : Nat)
            omega
          · show -2147483648 ≤ b + 1 ∧ b + 1 ≤ 2147483647
            omega
    · obtain ⟨⟨w1, w2, w3, w4⟩, p1, p2⟩ := h
      have w1 : S.1 1408 = 5 := w1
      have w2 : S.1 1409 = 200 := w2
      have w3 : 0 ≤ S.1 1411 := w3
      have w4 : S.1 1411 ≤ 200 := w4
      have p1 : 200 ≤ S.1 1411 → post [(0, -1)] S := p1
      have p2 : S.1 1411 < 200 → ∀ A, u_ad S 23 (S.1 1411 * 5) (S.1 1411 * 5 + 5) A → post [(0, S.1 1411)] (hs_up S.1 1411 (S.1 1411 + 1), A) := p2
      refine ⟨Nat.le_of_ble_eq_true rfl, fun hh k g st S' => st = [] ∧ S.1 1411 < 200 ∧ ∃ b A, g = [(0, (4, 22)), (1, (0, b))] ∧ S' = (S.1, A) ∧ (S.1 1411 * 5 ≤ b ∧ b ≤ S.1 1411 * 5 + 5) ∧ u_ad S 23 (S.1 1411 * 5) b A ∧ S.1 1411 * 5 + 5 - b ≤ (k : Int), ?_, ?_⟩
      · refine And.intro (fun g1 => ?_) (fun g1 => ?_)
        · have g2 : S.1 1411 < S.1 1409 := g1
          refine And.intro ?_ (Exists.intro 100 (Exists.intro [(0, (4, 22)), (1, (0, S.1 1411 * S.1 1408))] (And.intro (And.intro rfl (And.intro rfl trivial)) (And.intro rfl (And.intro (by omega) (Exists.intro (S.1 1411 * S.1 1408) (Exists.intro S.2 (And.intro rfl (And.intro rfl ?_)))))))))
          · show -2147483648 ≤ S.1 1411 * S.1 1408 ∧ S.1 1411 * S.1 1408 ≤ 2147483647
            rw [w1]; omega
          · rw [w1]
            exact ⟨⟨by omega, by omega⟩, ⟨fun _ _ => rfl, fun _ _ => rfl⟩, by omega⟩
        · have g2 : ¬ S.1 1411 < S.1 1409 := g1
          exact p1 (by omega)
      · intro hh hm
        simp only [List.mem_cons, List.not_mem_nil, or_false] at hm
        subst hm
        intro k g st S' hI
        obtain ⟨rfl, hs, b, A, rfl, rfl, hb, hA, hk⟩ := hI
        refine And.intro ?_ (And.intro ?_ (And.intro (fun g1 => ?_) (fun g1 => ?_)))
        · show -2147483648 ≤ S.1 1411 + 1 ∧ S.1 1411 + 1 ≤ 2147483647
          omega
        · show -2147483648 ≤ (S.1 1411 + 1) * S.1 1408 ∧ (S.1 1411 + 1) * S.1 1408 ≤ 2147483647
          rw [w1]; omega
        · have g2 : (S.1 1411 + 1) * S.1 1408 ≤ b := g1
          rw [w1] at g2
          have eb : b = S.1 1411 * 5 + 5 := by omega
          refine And.intro ?_ (And.intro ?_ ?_)
          · show -2147483648 ≤ S.1 1411 + 1 ∧ S.1 1411 + 1 ≤ 2147483647
            omega
          · show -2147483648 ≤ S.1 1411 + 1 - 1 ∧ S.1 1411 + 1 - 1 ≤ 2147483647
            omega
          · show post [(0, S.1 1411 + 1 - 1)] (hs_up S.1 1411 (S.1 1411 + 1), A)
            rw [show S.1 1411 + 1 - 1 = S.1 1411 by omega]
            rw [eb] at hA
            exact p2 hs A hA
        · have g2 : ¬ (S.1 1411 + 1) * S.1 1408 ≤ b := g1
          rw [w1] at g2
          refine And.intro ?_ (And.intro ?_ (Exists.intro (k - 1) (And.intro (by omega) (Exists.intro [(0, (4, 22)), (1, (0, b + 1))] (And.intro (And.intro rfl (And.intro rfl trivial)) (And.intro rfl (And.intro hs (Exists.intro (b + 1) (Exists.intro (hs_ua A 23 b.toNat (-1)) (And.intro rfl (And.intro rfl (And.intro (And.intro (by omega) (by omega)) (And.intro (u_ad.put (by omega) hb.1 hA) (by omega))))))))))))))
          · show 0 ≤ b ∧ b < (1000 : Nat)
            omega
          · show -2147483648 ≤ b + 1 ∧ b + 1 ≤ 2147483647
            omega
    · cases h
  · cases h
end V24

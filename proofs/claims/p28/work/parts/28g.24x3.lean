/-! ===== the class's writers, by hand (by wip/gen/mkhc2.py) ===== -/
theorem cn1 {a b : Prop} (h : a) : (¬ (1 : Int) = 0 → a) ∧ ((1 : Int) = 0 → b) := ⟨fun _ => h, fun g => absurd g (by decide)⟩
theorem cn0 {a b : Prop} (h : b) : (¬ (0 : Int) = 0 → a) ∧ ((0 : Int) = 0 → b) := ⟨fun g => absurd rfl g, fun _ => h⟩
theorem ce1 {a b : Prop} (h : b) : ((1 : Int) = 0 → a) ∧ (¬ (1 : Int) = 0 → b) := ⟨fun g => absurd g (by decide), fun _ => h⟩
theorem ce0 {a b : Prop} (h : a) : ((0 : Int) = 0 → a) ∧ (¬ (0 : Int) = 0 → b) := ⟨fun _ => h, fun g => absurd rfl g⟩
theorem u_Tb.up {S : hs_S} {A : Nat → Nat → Int} {k : Nat} {w n : Int} (h : u_Tb S k w n) (hs : S.1 (64 * k + 3) < n) : u_Tb (hs_up S.1 (64 * k + 3) (S.1 (64 * k + 3) + 1), A) k w n := by
  obtain ⟨h1, h2, h3, h4⟩ := h
  refine ⟨?_, ?_, ?_, ?_⟩
  · show hs_up S.1 (64 * k + 3) (S.1 (64 * k + 3) + 1) (64 * k) = w
    rw [hs_up_ne (by omega)]; exact h1
  · show hs_up S.1 (64 * k + 3) (S.1 (64 * k + 3) + 1) (64 * k + 1) = n
    rw [hs_up_ne (by omega)]; exact h2
  · show 0 ≤ hs_up S.1 (64 * k + 3) (S.1 (64 * k + 3) + 1) (64 * k + 3)
    rw [hs_up_eq]; omega
  · show hs_up S.1 (64 * k + 3) (S.1 (64 * k + 3) + 1) (64 * k + 3) ≤ n
    rw [hs_up_eq]; omega
/-- a row of a table is so, or so far so, and all else as it was -/
def u_row (S : hs_S) (k : Nat) (a n : Int) (vs : List Int) (B : Nat → Nat → Int) : Prop := (∀ c, ¬ c = k → B c = S.2 c) ∧ (∀ j : Nat, ((j : Int) < a ∨ a + n ≤ (j : Int)) → B k j = S.2 k j) ∧ ∀ i v, vs[i]? = some v → B k (a.toNat + i) = v
theorem u_row.nil {S : hs_S} {k : Nat} {a n : Int} {A : Nat → Nat → Int} (h : u_ad S k a (a + n) A) : u_row S k a n [] A := ⟨h.1, h.2, fun i v e => by cases e⟩
theorem u_row.put {S : hs_S} {k : Nat} {a n x v : Int} {vs : List Int} {B : Nat → Nat → Int} (ha : 0 ≤ a) (hn : (vs.length : Int) < n) (hx : x = a + vs.length) (h : u_row S k a n vs B) : u_row S k a n (vs ++ [v]) (hs_ua B k x.toNat v) := by
  obtain ⟨h1, h2, h3⟩ := h
  refine ⟨fun c hc => by rw [hs_ua_ne hc]; exact h1 c hc, fun j hj => ?_, fun i u hi => ?_⟩
  · rw [hs_ua_k, if_neg (by omega)]
    exact h2 j hj
  · rw [hs_ua_k]
    by_cases e : i < vs.length
    · rw [if_neg (by omega)]
      rw [List.getElem?_append_left e] at hi
      exact h3 i u hi
    · have e2 : i < (vs ++ [v]).length := by
        rcases Nat.lt_or_ge i (vs ++ [v]).length with g | g
        · exact g
        · rw [List.getElem?_eq_none g] at hi
          cases hi
      rw [List.length_append, List.length_singleton] at e2
      have e3 : i = vs.length := by omega
      subst e3
      rw [List.getElem?_append_right (Nat.le_refl _), Nat.sub_self] at hi
      have hi : some v = some u := hi
      cases hi
      rw [if_pos (by omega)]
def hc_no (S : hs_S) (v : Int) : hs_S := (hs_up S.1 8 v, S.2)
def hc_yes (F : Nat → Int) (B : Nat → Nat → Int) : hs_S := (hs_up (hs_up F 8 0) 1988 0, B)
def u_box : hs_T := fun as S post => match as with
  | [(4, z), (0, b), (0, s)] => z = 0 ∧ u_Tb S 16 2 40 ∧ (¬ (0 ≤ s ∧ s < 100000) → post [(0, -1)] (hc_no S (-1))) ∧ ((0 ≤ s ∧ s < 100000) → ¬ (0 ≤ b ∧ b < S.1 899) → post [(0, -2)] (hc_no S (-2))) ∧ ((0 ≤ s ∧ s < 100000) → (0 ≤ b ∧ b < S.1 899) → 40 ≤ S.1 1027 → post [(0, -5)] (hc_no S (-5))) ∧ ((0 ≤ s ∧ s < 100000) → (0 ≤ b ∧ b < S.1 899) → S.1 1027 < 40 → ∀ B, u_row S 17 (S.1 1027 * 2) 2 [b, s] B → post [(0, S.1 1027)] (hc_yes (hs_up S.1 1027 (S.1 1027 + 1)) B))
  | _ => False
def u_okh (h d s k : Int) : Prop := (0 ≤ h ∧ h < 20) ∧ (0 ≤ d ∧ d < 400) ∧ (0 ≤ s ∧ s < 100000) ∧ (0 ≤ k ∧ k < 400)
def u_hand : hs_T := fun as S post => match as with
  | [(4, z), (0, b), (0, h), (0, d), (0, s), (0, k)] => z = 0 ∧ u_Tb S 18 5 200 ∧ (¬ u_okh h d s k → post [(0, -1)] (hc_no S (-1))) ∧ (u_okh h d s k → ¬ (0 ≤ b ∧ b < S.1 1027) → post [(0, -2)] (hc_no S (-2))) ∧ (u_okh h d s k → (0 ≤ b ∧ b < S.1 1027) → 200 ≤ S.1 1155 → post [(0, -5)] (hc_no S (-5))) ∧ (u_okh h d s k → (0 ≤ b ∧ b < S.1 1027) → S.1 1155 < 200 → ∀ B, u_row S 19 (S.1 1155 * 5) 5 [b, h, d, s, k] B → post [(0, S.1 1155 + 1)] (hc_yes (hs_up S.1 1155 (S.1 1155 + 1)) B))
  | _ => False
def u_okc (y m n k : Int) : Prop := (0 ≤ y ∧ y < 8) ∧ (0 ≤ m ∧ m < 10) ∧ (0 ≤ n ∧ n < 10001) ∧ (0 ≤ k ∧ k < 400)
def u_count : hs_T := fun as S post => match as with
  | [(4, z), (0, b), (0, y), (0, m), (0, n), (0, k)] => z = 0 ∧ u_Tb S 22 5 200 ∧ (¬ u_okc y m n k → post [(0, -1)] (hc_no S (-1))) ∧ (u_okc y m n k → ¬ (0 ≤ b ∧ b < S.1 1027) → post [(0, -2)] (hc_no S (-2))) ∧ (u_okc y m n k → (0 ≤ b ∧ b < S.1 1027) → 200 ≤ S.1 1411 → post [(0, -5)] (hc_no S (-5))) ∧ (u_okc y m n k → (0 ≤ b ∧ b < S.1 1027) → S.1 1411 < 200 → ∀ B, u_row S 23 (S.1 1411 * 5) 5 [b, y, m, n, k] B → post [(0, S.1 1411)] (hc_yes (hs_up S.1 1411 (S.1 1411 + 1)) B))
  | _ => False
def u_alter : hs_T := fun as S post => match as with
  | [(4, z), (0, i), (0, m)] => z = 0 ∧ u_Tb S 22 5 200 ∧ (¬ (1 ≤ m ∧ m ≤ 255) → post [(0, -1)] (hc_no S (-1))) ∧ ((1 ≤ m ∧ m ≤ 255) → ¬ (0 ≤ i ∧ i < S.1 1411) → post [(0, -2)] (hc_no S (-2))) ∧ ((1 ≤ m ∧ m ≤ 255) → (0 ≤ i ∧ i < S.1 1411) → post [(0, (Int32.ofInt (S.2 23 (i * 5 + 3).toNat) ^^^ Int32.ofInt m).toInt)] (hc_yes S.1 (hs_ua S.2 23 (i * 5 + 3).toNat (Int32.ofInt (S.2 23 (i * 5 + 3).toNat) ^^^ Int32.ofInt m).toInt)))
  | _ => False
def u_bit (y : Int) : Int := (Int32.ofInt 1 <<< (Int32.ofInt y &&& 31)).toInt
def u_kb (S : hs_S) (s y : Int) : Int := (Int32.ofInt (S.2 24 s.toNat) &&& Int32.ofInt (u_bit y)).toInt
def u_ko (S : hs_S) (s y : Int) : Int := (Int32.ofInt (S.2 24 s.toNat) ||| Int32.ofInt (u_bit y)).toInt
def u_keep : hs_T := fun as S post => match as with
  | [(4, z), (0, s), (0, y)] => z = 0 ∧ (¬ ((0 ≤ s ∧ s < 6) ∧ 0 ≤ y ∧ y < 8) → post [(0, -1)] (hc_no S (-1))) ∧ (((0 ≤ s ∧ s < 6) ∧ 0 ≤ y ∧ y < 8) → ¬ u_kb S s y = 0 → post [(0, -4)] (hc_no S (-4))) ∧ (((0 ≤ s ∧ s < 6) ∧ 0 ≤ y ∧ y < 8) → u_kb S s y = 0 → post [(0, 0)] (hc_yes S.1 (hs_ua S.2 24 s.toNat (u_ko S s y))))
  | _ => False
section W24
def Ec_3 : hs_E := hs_ad (hs_ad (hs_ad (hs_ad Ec_2 300 u_accept) 226 u_get) 231 u_set) 224 u_add
theorem ec_3 : ∀ K, hc_C hc_sh K (Ec_3 K) := hc_ad_ok (hc_ad_ok (hc_ad_ok (hc_ad_ok ec_2 d_accept) d_get) d_set) d_add
theorem d_box : hc_C hc_sh 309 u_box := by
  refine hc_met0 (nL := 4) (n0 := 120) [] ec_3 (by decide +kernel) rfl rfl ?_
  intro as S post h
  unfold u_box at h
  split at h
  · rename_i z b s
    obtain ⟨rfl, hT, q1, q2, q3, q4⟩ := h
    refine ⟨Nat.le_of_ble_eq_true rfl, ?_⟩
    refine And.intro (fun a0 b0 => cn1 ?_) (fun a0 => cn0 ?_)
    rotate_left
    · exact ⟨rfl, q1 (fun q => a0 q)⟩
    have hok : 0 ≤ s ∧ s < 100000 := ⟨a0, b0⟩
    refine And.intro (Or.inl rfl) (And.intro (fun b1 b2 => cn1 ?_) (fun b1 => cn0 ?_))
    rotate_left
    · exact ⟨rfl, q2 hok b1⟩
    refine And.intro hT (And.intro (fun g1 => ?_) (fun g1 A hA => ?_))
    · refine And.intro (fun g => absurd rfl g) (fun _ => ?_)
      exact ⟨rfl, q3 hok ⟨b1, b2⟩ g1⟩
    · have g1 : S.1 1027 < 40 := g1
      have g0 : 0 ≤ S.1 1027 := hT.2.2.1
      have hA : u_ad S 17 (S.1 1027 * 2) (S.1 1027 * 2 + 2) A := hA
      have hT1 : u_Tb (hs_up S.1 1027 (S.1 1027 + 1), A) 16 2 40 := hT.up g1
      have hR0 : 0 ≤ S.1 1027 ∧ S.1 1027 < hs_up S.1 1027 (S.1 1027 + 1) 1027 ∧ (0 : Int) ≤ 0 ∧ (0 : Int) < 2 := ⟨g0, by rw [hs_up_eq]; omega, by decide, by decide⟩
      have hR1 : 0 ≤ S.1 1027 ∧ S.1 1027 < hs_up S.1 1027 (S.1 1027 + 1) 1027 ∧ (0 : Int) ≤ 1 ∧ (1 : Int) < 2 := ⟨g0, by rw [hs_up_eq]; omega, by decide, by decide⟩
      refine And.intro (fun _ => ?_) (fun g => ?_)
      rotate_left
      · have g : S.1 1027 = -1 := g
        omega
      refine And.intro hT1 (And.intro hR0 ?_)
      refine And.intro hT1 (And.intro hR1 ?_)
      have r0 : u_row S 17 (S.1 1027 * 2) 2 [] A := u_row.nil hA
      have r1 : u_row S 17 (S.1 1027 * 2) 2 [b] (hs_ua A 17 (S.1 1027 * 2 + 0).toNat b) := u_row.put (vs := []) (by omega) (by show (((0 : Nat)) : Int) < 2; decide) (by show S.1 1027 * 2 + 0 = S.1 1027 * 2 + ((0 : Nat) : Int); omega) r0
      have r2 : u_row S 17 (S.1 1027 * 2) 2 [b, s] (hs_ua (hs_ua A 17 (S.1 1027 * 2 + 0).toNat b) 17 (S.1 1027 * 2 + 1).toNat s) := u_row.put (vs := [b]) (by omega) (by show (((1 : Nat)) : Int) < 2; decide) (by show S.1 1027 * 2 + 1 = S.1 1027 * 2 + ((1 : Nat) : Int); omega) r1
      have q := q4 hok ⟨b1, b2⟩ g1 _ r2
      exact ⟨rfl, q⟩
  · cases h
theorem d_hand : hc_C hc_sh 322 u_hand := by
  refine hc_met0 (nL := 7) (n0 := 120) [] ec_3 (by decide +kernel) rfl rfl ?_
  intro as S post h
  unfold u_hand at h
  split at h
  · rename_i z b h d s k
    obtain ⟨rfl, hT, q1, q2, q3, q4⟩ := h
    refine ⟨Nat.le_of_ble_eq_true rfl, ?_⟩
    refine And.intro (fun a0 b0 => ce1 ?_) (fun a0 => ce0 ?_)
    rotate_left
    · exact ⟨rfl, q1 (fun q => a0 q.1)⟩
    refine And.intro (fun a1 b1 => ce1 ?_) (fun a1 => ce0 ?_)
    rotate_left
    · exact ⟨rfl, q1 (fun q => a1 q.2.1)⟩
    refine And.intro (fun a2 b2 => ce1 ?_) (fun a2 => ce0 ?_)
    rotate_left
    · exact ⟨rfl, q1 (fun q => a2 q.2.2.1)⟩
    refine And.intro (fun a3 b3 => cn1 ?_) (fun a3 => cn0 ?_)
    rotate_left
    · exact ⟨rfl, q1 (fun q => a3 q.2.2.2)⟩
    have hok : u_okh h d s k := ⟨⟨a0, b0⟩, ⟨⟨a1, b1⟩, ⟨⟨a2, b2⟩, ⟨a3, b3⟩⟩⟩⟩
    refine And.intro (Or.inr (Or.inl rfl)) (And.intro (fun b1 b2 => cn1 ?_) (fun b1 => cn0 ?_))
    rotate_left
    · exact ⟨rfl, q2 hok b1⟩
    refine And.intro hT (And.intro (fun g1 => ?_) (fun g1 A hA => ?_))
    · refine And.intro (fun g => absurd rfl g) (fun _ => ?_)
      exact ⟨rfl, q3 hok ⟨b1, b2⟩ g1⟩
    · have g1 : S.1 1155 < 200 := g1
      have g0 : 0 ≤ S.1 1155 := hT.2.2.1
      have hA : u_ad S 19 (S.1 1155 * 5) (S.1 1155 * 5 + 5) A := hA
      have hT1 : u_Tb (hs_up S.1 1155 (S.1 1155 + 1), A) 18 5 200 := hT.up g1
      have hR0 : 0 ≤ S.1 1155 ∧ S.1 1155 < hs_up S.1 1155 (S.1 1155 + 1) 1155 ∧ (0 : Int) ≤ 0 ∧ (0 : Int) < 5 := ⟨g0, by rw [hs_up_eq]; omega, by decide, by decide⟩
      have hR1 : 0 ≤ S.1 1155 ∧ S.1 1155 < hs_up S.1 1155 (S.1 1155 + 1) 1155 ∧ (0 : Int) ≤ 1 ∧ (1 : Int) < 5 := ⟨g0, by rw [hs_up_eq]; omega, by decide, by decide⟩
      have hR2 : 0 ≤ S.1 1155 ∧ S.1 1155 < hs_up S.1 1155 (S.1 1155 + 1) 1155 ∧ (0 : Int) ≤ 2 ∧ (2 : Int) < 5 := ⟨g0, by rw [hs_up_eq]; omega, by decide, by decide⟩
      have hR3 : 0 ≤ S.1 1155 ∧ S.1 1155 < hs_up S.1 1155 (S.1 1155 + 1) 1155 ∧ (0 : Int) ≤ 3 ∧ (3 : Int) < 5 := ⟨g0, by rw [hs_up_eq]; omega, by decide, by decide⟩
      have hR4 : 0 ≤ S.1 1155 ∧ S.1 1155 < hs_up S.1 1155 (S.1 1155 + 1) 1155 ∧ (0 : Int) ≤ 4 ∧ (4 : Int) < 5 := ⟨g0, by rw [hs_up_eq]; omega, by decide, by decide⟩
      refine And.intro (fun _ => ?_) (fun g => ?_)
      rotate_left
      · have g : S.1 1155 = -1 := g
        omega
      refine And.intro hT1 (And.intro hR0 ?_)
      refine And.intro hT1 (And.intro hR1 ?_)
      refine And.intro hT1 (And.intro hR2 ?_)
      refine And.intro hT1 (And.intro hR3 ?_)
      refine And.intro hT1 (And.intro hR4 ?_)
      refine And.intro (Or.inr (Or.inr (Or.inl rfl))) ?_
      have r0 : u_row S 19 (S.1 1155 * 5) 5 [] A := u_row.nil hA
      have r1 : u_row S 19 (S.1 1155 * 5) 5 [b] (hs_ua A 19 (S.1 1155 * 5 + 0).toNat b) := u_row.put (vs := []) (by omega) (by show (((0 : Nat)) : Int) < 5; decide) (by show S.1 1155 * 5 + 0 = S.1 1155 * 5 + ((0 : Nat) : Int); omega) r0
      have r2 : u_row S 19 (S.1 1155 * 5) 5 [b, h] (hs_ua (hs_ua A 19 (S.1 1155 * 5 + 0).toNat b) 19 (S.1 1155 * 5 + 1).toNat h) := u_row.put (vs := [b]) (by omega) (by show (((1 : Nat)) : Int) < 5; decide) (by show S.1 1155 * 5 + 1 = S.1 1155 * 5 + ((1 : Nat) : Int); omega) r1
      have r3 : u_row S 19 (S.1 1155 * 5) 5 [b, h, d] (hs_ua (hs_ua (hs_ua A 19 (S.1 1155 * 5 + 0).toNat b) 19 (S.1 1155 * 5 + 1).toNat h) 19 (S.1 1155 * 5 + 2).toNat d) := u_row.put (vs := [b, h]) (by omega) (by show (((2 : Nat)) : Int) < 5; decide) (by show S.1 1155 * 5 + 2 = S.1 1155 * 5 + ((2 : Nat) : Int); omega) r2
      have r4 : u_row S 19 (S.1 1155 * 5) 5 [b, h, d, s] (hs_ua (hs_ua (hs_ua (hs_ua A 19 (S.1 1155 * 5 + 0).toNat b) 19 (S.1 1155 * 5 + 1).toNat h) 19 (S.1 1155 * 5 + 2).toNat d) 19 (S.1 1155 * 5 + 3).toNat s) := u_row.put (vs := [b, h, d]) (by omega) (by show (((3 : Nat)) : Int) < 5; decide) (by show S.1 1155 * 5 + 3 = S.1 1155 * 5 + ((3 : Nat) : Int); omega) r3
      have r5 : u_row S 19 (S.1 1155 * 5) 5 [b, h, d, s, k] (hs_ua (hs_ua (hs_ua (hs_ua (hs_ua A 19 (S.1 1155 * 5 + 0).toNat b) 19 (S.1 1155 * 5 + 1).toNat h) 19 (S.1 1155 * 5 + 2).toNat d) 19 (S.1 1155 * 5 + 3).toNat s) 19 (S.1 1155 * 5 + 4).toNat k) := u_row.put (vs := [b, h, d, s]) (by omega) (by show (((4 : Nat)) : Int) < 5; decide) (by show S.1 1155 * 5 + 4 = S.1 1155 * 5 + ((4 : Nat) : Int); omega) r4
      have q := q4 hok ⟨b1, b2⟩ g1 _ r5
      exact ⟨rfl, q⟩
  · cases h
theorem d_count : hc_C hc_sh 315 u_count := by
  refine hc_met0 (nL := 7) (n0 := 120) [] ec_3 (by decide +kernel) rfl rfl ?_
  intro as S post h
  unfold u_count at h
  split at h
  · rename_i z b y m n k
    obtain ⟨rfl, hT, q1, q2, q3, q4⟩ := h
    refine ⟨Nat.le_of_ble_eq_true rfl, ?_⟩
    refine And.intro (fun a0 b0 => ce1 ?_) (fun a0 => ce0 ?_)
    rotate_left
    · exact ⟨rfl, q1 (fun q => a0 q.1)⟩
    refine And.intro (fun a1 b1 => ce1 ?_) (fun a1 => ce0 ?_)
    rotate_left
    · exact ⟨rfl, q1 (fun q => a1 q.2.1)⟩
    refine And.intro (fun a2 b2 => ce1 ?_) (fun a2 => ce0 ?_)
    rotate_left
    · exact ⟨rfl, q1 (fun q => a2 q.2.2.1)⟩
    refine And.intro (fun a3 b3 => cn1 ?_) (fun a3 => cn0 ?_)
    rotate_left
    · exact ⟨rfl, q1 (fun q => a3 q.2.2.2)⟩
    have hok : u_okc y m n k := ⟨⟨a0, b0⟩, ⟨⟨a1, b1⟩, ⟨⟨a2, b2⟩, ⟨a3, b3⟩⟩⟩⟩
    refine And.intro (Or.inr (Or.inl rfl)) (And.intro (fun b1 b2 => cn1 ?_) (fun b1 => cn0 ?_))
    rotate_left
    · exact ⟨rfl, q2 hok b1⟩
    refine And.intro hT (And.intro (fun g1 => ?_) (fun g1 A hA => ?_))
    · refine And.intro (fun g => absurd rfl g) (fun _ => ?_)
      exact ⟨rfl, q3 hok ⟨b1, b2⟩ g1⟩
    · have g1 : S.1 1411 < 200 := g1
      have g0 : 0 ≤ S.1 1411 := hT.2.2.1
      have hA : u_ad S 23 (S.1 1411 * 5) (S.1 1411 * 5 + 5) A := hA
      have hT1 : u_Tb (hs_up S.1 1411 (S.1 1411 + 1), A) 22 5 200 := hT.up g1
      have hR0 : 0 ≤ S.1 1411 ∧ S.1 1411 < hs_up S.1 1411 (S.1 1411 + 1) 1411 ∧ (0 : Int) ≤ 0 ∧ (0 : Int) < 5 := ⟨g0, by rw [hs_up_eq]; omega, by decide, by decide⟩
      have hR1 : 0 ≤ S.1 1411 ∧ S.1 1411 < hs_up S.1 1411 (S.1 1411 + 1) 1411 ∧ (0 : Int) ≤ 1 ∧ (1 : Int) < 5 := ⟨g0, by rw [hs_up_eq]; omega, by decide, by decide⟩
      have hR2 : 0 ≤ S.1 1411 ∧ S.1 1411 < hs_up S.1 1411 (S.1 1411 + 1) 1411 ∧ (0 : Int) ≤ 2 ∧ (2 : Int) < 5 := ⟨g0, by rw [hs_up_eq]; omega, by decide, by decide⟩
      have hR3 : 0 ≤ S.1 1411 ∧ S.1 1411 < hs_up S.1 1411 (S.1 1411 + 1) 1411 ∧ (0 : Int) ≤ 3 ∧ (3 : Int) < 5 := ⟨g0, by rw [hs_up_eq]; omega, by decide, by decide⟩
      have hR4 : 0 ≤ S.1 1411 ∧ S.1 1411 < hs_up S.1 1411 (S.1 1411 + 1) 1411 ∧ (0 : Int) ≤ 4 ∧ (4 : Int) < 5 := ⟨g0, by rw [hs_up_eq]; omega, by decide, by decide⟩
      refine And.intro (fun _ => ?_) (fun g => ?_)
      rotate_left
      · have g : S.1 1411 = -1 := g
        omega
      refine And.intro hT1 (And.intro hR0 ?_)
      refine And.intro hT1 (And.intro hR1 ?_)
      refine And.intro hT1 (And.intro hR2 ?_)
      refine And.intro hT1 (And.intro hR3 ?_)
      refine And.intro hT1 (And.intro hR4 ?_)
      have r0 : u_row S 23 (S.1 1411 * 5) 5 [] A := u_row.nil hA
      have r1 : u_row S 23 (S.1 1411 * 5) 5 [b] (hs_ua A 23 (S.1 1411 * 5 + 0).toNat b) := u_row.put (vs := []) (by omega) (by show (((0 : Nat)) : Int) < 5; decide) (by show S.1 1411 * 5 + 0 = S.1 1411 * 5 + ((0 : Nat) : Int); omega) r0
      have r2 : u_row S 23 (S.1 1411 * 5) 5 [b, y] (hs_ua (hs_ua A 23 (S.1 1411 * 5 + 0).toNat b) 23 (S.1 1411 * 5 + 1).toNat y) := u_row.put (vs := [b]) (by omega) (by show (((1 : Nat)) : Int) < 5; decide) (by show S.1 1411 * 5 + 1 = S.1 1411 * 5 + ((1 : Nat) : Int); omega) r1
      have r3 : u_row S 23 (S.1 1411 * 5) 5 [b, y, m] (hs_ua (hs_ua (hs_ua A 23 (S.1 1411 * 5 + 0).toNat b) 23 (S.1 1411 * 5 + 1).toNat y) 23 (S.1 1411 * 5 + 2).toNat m) := u_row.put (vs := [b, y]) (by omega) (by show (((2 : Nat)) : Int) < 5; decide) (by show S.1 1411 * 5 + 2 = S.1 1411 * 5 + ((2 : Nat) : Int); omega) r2
      have r4 : u_row S 23 (S.1 1411 * 5) 5 [b, y, m, n] (hs_ua (hs_ua (hs_ua (hs_ua A 23 (S.1 1411 * 5 + 0).toNat b) 23 (S.1 1411 * 5 + 1).toNat y) 23 (S.1 1411 * 5 + 2).toNat m) 23 (S.1 1411 * 5 + 3).toNat n) := u_row.put (vs := [b, y, m]) (by omega) (by show (((3 : Nat)) : Int) < 5; decide) (by show S.1 1411 * 5 + 3 = S.1 1411 * 5 + ((3 : Nat) : Int); omega) r3
      have r5 : u_row S 23 (S.1 1411 * 5) 5 [b, y, m, n, k] (hs_ua (hs_ua (hs_ua (hs_ua (hs_ua A 23 (S.1 1411 * 5 + 0).toNat b) 23 (S.1 1411 * 5 + 1).toNat y) 23 (S.1 1411 * 5 + 2).toNat m) 23 (S.1 1411 * 5 + 3).toNat n) 23 (S.1 1411 * 5 + 4).toNat k) := u_row.put (vs := [b, y, m, n]) (by omega) (by show (((4 : Nat)) : Int) < 5; decide) (by show S.1 1411 * 5 + 4 = S.1 1411 * 5 + ((4 : Nat) : Int); omega) r4
      have q := q4 hok ⟨b1, b2⟩ g1 _ r5
      exact ⟨rfl, q⟩
  · cases h
theorem d_alter : hc_C hc_sh 304 u_alter := by
  refine hc_met0 (nL := 4) (n0 := 120) [] ec_3 (by decide +kernel) rfl rfl ?_
  intro as S post h
  unfold u_alter at h
  split at h
  · rename_i z i m
    obtain ⟨rfl, hT, q1, q2, q3⟩ := h
    refine ⟨Nat.le_of_ble_eq_true rfl, ?_⟩
    refine And.intro (fun m1 => ?_) (fun m1 => And.intro (fun m2 => ?_) (fun m2 => ?_))
    · have m1 : m < 1 := m1
      exact ⟨rfl, q1 (by omega)⟩
    rotate_left
    · have m1 : ¬ m < 1 := m1
      have m2 : ¬ m ≤ 255 := m2
      exact ⟨rfl, q1 (by omega)⟩
    have m1 : ¬ m < 1 := m1
    have m2 : m ≤ 255 := m2
    have hm : 1 ≤ m ∧ m ≤ 255 := by omega
    refine And.intro (Or.inr (Or.inr (Or.inr rfl))) (And.intro (fun b1 b2 => cn1 ?_) (fun b1 => cn0 ?_))
    rotate_left
    · exact ⟨rfl, q2 hm b1⟩
    have b2 : i < S.1 1411 := b2
    have eg : ug S 22 5 i 3 = S.2 23 (i * 5 + 3).toNat := if_pos ⟨b1, b2, by decide, by decide⟩
    refine And.intro hT (fun z ez => ?_)
    have ez : z = (Int32.ofInt (ug S 22 5 i 3) ^^^ Int32.ofInt m).toInt := ez
    rw [eg] at ez
    subst ez
    refine And.intro hT (And.intro ⟨b1, b2, by decide, by decide⟩ ?_)
    exact ⟨rfl, q3 hm ⟨b1, b2⟩⟩
  · cases h
theorem d_keep : hc_C hc_sh 332 u_keep := by
  refine hc_met0 (nL := 4) (n0 := 120) [] ec_3 (by decide +kernel) rfl rfl ?_
  intro as S post h
  unfold u_keep at h
  split at h
  · rename_i z s y
    obtain ⟨rfl, q1, q2, q3⟩ := h
    refine ⟨Nat.le_of_ble_eq_true rfl, ?_⟩
    refine And.intro (fun a0 b0 => ce1 ?_) (fun a0 => ce0 ?_)
    rotate_left
    · exact ⟨rfl, q1 (fun q => a0 q.1)⟩
    refine And.intro (fun a1 b1 => cn1 ?_) (fun a1 => cn0 ?_)
    rotate_left
    · exact ⟨rfl, q1 (fun q => a1 q.2)⟩
    have hok : (0 ≤ s ∧ s < 6) ∧ 0 ≤ y ∧ y < 8 := ⟨⟨a0, b0⟩, a1, b1⟩
    intro x ex
    have ex : x = u_bit y := ex
    subst ex
    refine And.intro ⟨a0, b0⟩ (fun x ex _ => ?_)
    have ex : x = u_kb S s y := ex
    subst ex
    refine And.intro (fun g => ?_) (fun g => ?_)
    · refine And.intro ⟨a0, b0⟩ (fun x ex => ?_)
      have ex : x = u_ko S s y := ex
      subst ex
      exact And.intro ⟨a0, b0⟩ ⟨rfl, q3 hok g⟩
    · exact ⟨rfl, q2 hok g⟩
  · cases h
end W24

/-! ===== the reference's writers, by hand (by wip/gen/mkhr.py) ===== -/
def t_isBooth : hs_T := fun as S post => match as with
  | [(4, z), (0, p)] => z = 0 ∧ (0 ≤ S.2 1 3 ∧ S.2 1 3 ≤ 20) ∧ (0 ≤ p → p < S.2 1 3 → post [(0, 1)] S) ∧ (¬ (0 ≤ p ∧ p < S.2 1 3) → post [(0, 0)] S)
  | _ => False
def t_isBox : hs_T := fun as S post => match as with
  | [(4, z), (0, p)] => z = 0 ∧ (0 ≤ S.2 1 4 ∧ S.2 1 4 ≤ 40) ∧ (0 ≤ p → p < S.2 1 4 → post [(0, 1)] S) ∧ (¬ (0 ≤ p ∧ p < S.2 1 4) → post [(0, 0)] S)
  | _ => False
def t_st (S : hs_S) (w : Int) : Nat → Int := hs_up (hs_up S.1 0 0) 1 w
def t_box : hs_T := fun as S post => match as with
  | [(4, z), (0, b), (0, s)] => z = 0 ∧ (0 ≤ S.2 1 3 ∧ S.2 1 3 ≤ 20) ∧ (0 ≤ S.2 1 4 ∧ S.2 1 4 ≤ 40) ∧ (¬ (0 ≤ s ∧ s ≤ 99999) → ∀ w, post [(0, -1)] (t_st S w, S.2)) ∧ ((0 ≤ s ∧ s ≤ 99999) → ¬ (0 ≤ b ∧ b < S.2 1 3) → ∀ w, post [(0, -2)] (t_st S w, S.2)) ∧ ((0 ≤ s ∧ s ≤ 99999) → (0 ≤ b ∧ b < S.2 1 3) → S.2 1 4 = 40 → ∀ w, post [(0, -5)] (t_st S w, S.2)) ∧ ((0 ≤ s ∧ s ≤ 99999) → (0 ≤ b ∧ b < S.2 1 3) → ¬ S.2 1 4 = 40 → ∀ r v B, r = S.2 1 4 → v = S.2 1 4 + 1 → u_row S 1 (2448 + 2 * S.2 1 4) 2 [b, s] B → ∀ w, post [(0, r)] (t_st S w, hs_ua B 1 4 v))
  | _ => False
def t_okh (h d s k : Int) : Prop := (0 ≤ h ∧ h ≤ 19) ∧ (0 ≤ d ∧ d ≤ 399) ∧ (0 ≤ s ∧ s ≤ 99999) ∧ (0 ≤ k ∧ k ≤ 399)
def t_hand : hs_T := fun as S post => match as with
  | [(4, z), (0, b), (0, h), (0, d), (0, s), (0, k)] => z = 0 ∧ (0 ≤ S.2 1 4 ∧ S.2 1 4 ≤ 40) ∧ (0 ≤ S.2 1 5 ∧ S.2 1 5 ≤ 200) ∧ (¬ t_okh h d s k → ∀ w, post [(0, -1)] (t_st S w, S.2)) ∧ (t_okh h d s k → ¬ (0 ≤ b ∧ b < S.2 1 4) → ∀ w, post [(0, -2)] (t_st S w, S.2)) ∧ (t_okh h d s k → (0 ≤ b ∧ b < S.2 1 4) → S.2 1 5 = 200 → ∀ w, post [(0, -5)] (t_st S w, S.2)) ∧ (t_okh h d s k → (0 ≤ b ∧ b < S.2 1 4) → ¬ S.2 1 5 = 200 → ∀ r v B, r = S.2 1 5 + 1 → v = S.2 1 5 + 1 → u_row S 1 (2528 + 5 * S.2 1 5) 5 [b, h, d, s, k] B → ∀ w, post [(0, r)] (t_st S w, hs_ua B 1 5 v))
  | _ => False
def t_okc (y m n k : Int) : Prop := (0 ≤ y ∧ y ≤ 7) ∧ (0 ≤ m ∧ m ≤ 9) ∧ (0 ≤ n ∧ n ≤ 10000) ∧ (0 ≤ k ∧ k ≤ 399)
def t_count : hs_T := fun as S post => match as with
  | [(4, z), (0, b), (0, y), (0, m), (0, n), (0, k)] => z = 0 ∧ (0 ≤ S.2 1 4 ∧ S.2 1 4 ≤ 40) ∧ (0 ≤ S.2 1 6 ∧ S.2 1 6 ≤ 200) ∧ (¬ t_okc y m n k → ∀ w, post [(0, -1)] (t_st S w, S.2)) ∧ (t_okc y m n k → ¬ (0 ≤ b ∧ b < S.2 1 4) → ∀ w, post [(0, -2)] (t_st S w, S.2)) ∧ (t_okc y m n k → (0 ≤ b ∧ b < S.2 1 4) → S.2 1 6 = 200 → ∀ w, post [(0, -5)] (t_st S w, S.2)) ∧ (t_okc y m n k → (0 ≤ b ∧ b < S.2 1 4) → ¬ S.2 1 6 = 200 → ∀ r v B, r = S.2 1 6 → v = S.2 1 6 + 1 → u_row S 1 (4008 + 5 * S.2 1 6) 5 [b, y, m, n, k] B → ∀ w, post [(0, r)] (t_st S w, hs_ua B 1 6 v))
  | _ => False
def t_alter : hs_T := fun as S post => match as with
  | [(4, z), (0, i), (0, m)] => z = 0 ∧ (0 ≤ S.2 1 6 ∧ S.2 1 6 ≤ 200) ∧ (¬ (1 ≤ m ∧ m ≤ 255) → ∀ w, post [(0, -1)] (t_st S w, S.2)) ∧ ((1 ≤ m ∧ m ≤ 255) → ¬ (0 ≤ i ∧ i < S.2 1 6) → ∀ w, post [(0, -2)] (t_st S w, S.2)) ∧ ((1 ≤ m ∧ m ≤ 255) → (0 ≤ i ∧ i < S.2 1 6) → ∀ r v, r = v → v = (Int32.ofInt (S.2 1 (4008 + 5 * i + 3).toNat) ^^^ Int32.ofInt m).toInt → ∀ w, post [(0, r)] (t_st S w, hs_ua S.2 1 (4008 + 5 * i + 3).toNat v))
  | _ => False
def t_keep : hs_T := fun as S post => match as with
  | [(4, z), (0, s), (0, y)] => z = 0 ∧ (¬ ((0 ≤ s ∧ s ≤ 5) ∧ 0 ≤ y ∧ y ≤ 7) → ∀ w, post [(0, -1)] (t_st S w, S.2)) ∧ (((0 ≤ s ∧ s ≤ 5) ∧ 0 ≤ y ∧ y ≤ 7) → S.2 1 (5008 + 8 * s + y).toNat = 1 → ∀ w, post [(0, -4)] (t_st S w, S.2)) ∧ (((0 ≤ s ∧ s ≤ 5) ∧ 0 ≤ y ∧ y ≤ 7) → ¬ S.2 1 (5008 + 8 * s + y).toNat = 1 → ∀ w, post [(0, 0)] (t_st S w, hs_ua S.2 1 (5008 + 8 * s + y).toNat 1))
  | _ => False
section Y24
theorem c_isBooth : hs_C hs_sh 75 t_isBooth := by
  refine hs_met0 (nL := 2) (n0 := 60) [] e_3 (by decide +kernel) rfl rfl ?_
  intro as S post h
  unfold t_isBooth at h
  split at h
  · rename_i z p
    obtain ⟨rfl, h3, p1, p0⟩ := h
    refine ⟨Nat.le_of_ble_eq_true rfl, ?_⟩
    refine And.intro ⟨by decide, by decide⟩ (fun x hx => ?_)
    have hx : x = S.2 1 3 - 1 := hx (by show -9223372036854775808 ≤ S.2 1 3 - 1; omega) (by show S.2 1 3 - 1 ≤ 9223372036854775807; omega)
    subst hx
    refine And.intro (fun a b => ?_) (fun n => ?_)
    · have a : (0 : Int) ≤ p := a
      have b : p ≤ S.2 1 3 - 1 := b
      exact ⟨Or.inr rfl, p1 a (by omega)⟩
    · have n : ¬ ((0 : Int) ≤ p ∧ p ≤ S.2 1 3 - 1) := n
      exact ⟨Or.inl rfl, p0 (by omega)⟩
  · cases h
theorem c_isBox : hs_C hs_sh 76 t_isBox := by
  refine hs_met0 (nL := 2) (n0 := 60) [] e_3 (by decide +kernel) rfl rfl ?_
  intro as S post h
  unfold t_isBox at h
  split at h
  · rename_i z p
    obtain ⟨rfl, h3, p1, p0⟩ := h
    refine ⟨Nat.le_of_ble_eq_true rfl, ?_⟩
    refine And.intro ⟨by decide, by decide⟩ (fun x hx => ?_)
    have hx : x = S.2 1 4 - 1 := hx (by show -9223372036854775808 ≤ S.2 1 4 - 1; omega) (by show S.2 1 4 - 1 ≤ 9223372036854775807; omega)
    subst hx
    refine And.intro (fun a b => ?_) (fun n => ?_)
    · have a : (0 : Int) ≤ p := a
      have b : p ≤ S.2 1 4 - 1 := b
      exact ⟨Or.inr rfl, p1 a (by omega)⟩
    · have n : ¬ ((0 : Int) ≤ p ∧ p ≤ S.2 1 4 - 1) := n
      exact ⟨Or.inl rfl, p0 (by omega)⟩
  · cases h
def E_r : hs_E := hs_ad (hs_ad E_3 75 t_isBooth) 76 t_isBox
theorem e_r : ∀ K, hs_C hs_sh K (E_r K) := hs_ad_ok (hs_ad_ok e_3 c_isBooth) c_isBox
theorem c_box : hs_C hs_sh 42 t_box := by
  refine hs_met0 (nL := 3) (n0 := 160) [] e_r (by decide +kernel) rfl rfl ?_
  intro as S post h
  unfold t_box at h
  split at h
  · rename_i z b s
    obtain ⟨rfl, h3, h4, q1, q2, q3, q4⟩ := h
    refine ⟨Nat.le_of_ble_eq_true rfl, ?_⟩
    refine And.intro (fun a0 b0 => cn1 ?_) (fun a0 => cn0 ?_)
    rotate_left
    · exact ⟨rfl, fun w => q1 a0 w⟩
    have hs : 0 ≤ s ∧ s ≤ 99999 := ⟨a0, b0⟩
    refine And.intro rfl (And.intro h3 (And.intro (fun b1 b2 => cn1 ?_) (fun b1 => cn0 ?_)))
    rotate_left
    · exact ⟨rfl, fun w => q2 hs b1 w⟩
    refine And.intro ⟨by decide, by decide⟩ (And.intro (fun g => ?_) (fun g => ?_))
    rotate_left
    · exact ⟨rfl, fun w => q3 hs ⟨b1, b2⟩ g w⟩
    have g : ¬ S.2 1 4 = 40 := g
    have e4 : (hs_ua S.2 1 (2448 + 2 * S.2 1 4).toNat b) 1 4 = S.2 1 4 := by rw [hs_ua_k, if_neg (by omega)]
    have e5 : (hs_ua (hs_ua S.2 1 (2448 + 2 * S.2 1 4).toNat b) 1 (2448 + 2 * (hs_ua S.2 1 (2448 + 2 * S.2 1 4).toNat b) 1 4 + 1).toNat s) 1 4 = S.2 1 4 := by
      rw [hs_ua_k, if_neg (by rw [e4]; omega)]
      exact e4
    have e6 : (hs_ua (hs_ua (hs_ua S.2 1 (2448 + 2 * S.2 1 4).toNat b) 1 (2448 + 2 * (hs_ua S.2 1 (2448 + 2 * S.2 1 4).toNat b) 1 4 + 1).toNat s) 1 4 ((hs_ua (hs_ua S.2 1 (2448 + 2 * S.2 1 4).toNat b) 1 (2448 + 2 * (hs_ua S.2 1 (2448 + 2 * S.2 1 4).toNat b) 1 4 + 1).toNat s) 1 4 + 1)) 1 4 - 1 = S.2 1 4 := by
      rw [hs_ua_k, if_pos rfl, e5]
      omega
    have r0 : u_row S 1 (2448 + 2 * S.2 1 4) 2 [] S.2 := ⟨fun _ _ => rfl, fun _ _ => rfl, fun i v e => by cases e⟩
    have r1 : u_row S 1 (2448 + 2 * S.2 1 4) 2 [b] (hs_ua S.2 1 (2448 + 2 * S.2 1 4).toNat b) := u_row.put (vs := []) (by omega) (by show (((0 : Nat)) : Int) < 2; decide) (by show 2448 + 2 * S.2 1 4 = 2448 + 2 * S.2 1 4 + ((0 : Nat) : Int); omega) r0
    have r2 : u_row S 1 (2448 + 2 * S.2 1 4) 2 [b, s] (hs_ua (hs_ua S.2 1 (2448 + 2 * S.2 1 4).toNat b) 1 (2448 + 2 * (hs_ua S.2 1 (2448 + 2 * S.2 1 4).toNat b) 1 4 + 1).toNat s) := u_row.put (vs := [b]) (by omega) (by show (((1 : Nat)) : Int) < 2; decide) (by rw [e4]; show 2448 + 2 * S.2 1 4 + 1 = 2448 + 2 * S.2 1 4 + ((1 : Nat) : Int); omega) r1
    refine And.intro ⟨by decide, by decide⟩ (And.intro ?_ (And.intro ?_ (And.intro ?_ (And.intro ⟨by decide, by decide⟩ (And.intro ?_ (And.intro ?_ (And.intro ?_ (And.intro ?_ (And.intro ⟨by decide, by decide⟩ (And.intro ?_ (And.intro ⟨by decide, by decide⟩ (And.intro ⟨by decide, by decide⟩ (And.intro ?_ (And.intro rfl (fun w => ?_)))))))))))))))
    · show -2147483648 ≤ 2 * S.2 1 4 ∧ 2 * S.2 1 4 ≤ 2147483647
      omega
    · show -2147483648 ≤ 2448 + 2 * S.2 1 4 ∧ 2448 + 2 * S.2 1 4 ≤ 2147483647
      omega
    · show 0 ≤ 2448 + 2 * S.2 1 4 ∧ 2448 + 2 * S.2 1 4 < (23016 : Nat)
      omega
    · show -2147483648 ≤ 2 * (hs_ua S.2 1 (2448 + 2 * S.2 1 4).toNat b) 1 4 ∧ 2 * (hs_ua S.2 1 (2448 + 2 * S.2 1 4).toNat b) 1 4 ≤ 2147483647
      rw [e4]; omega
    · show -2147483648 ≤ 2448 + 2 * (hs_ua S.2 1 (2448 + 2 * S.2 1 4).toNat b) 1 4 ∧ 2448 + 2 * (hs_ua S.2 1 (2448 + 2 * S.2 1 4).toNat b) 1 4 ≤ 2147483647
      rw [e4]; omega
    · show -2147483648 ≤ 2448 + 2 * (hs_ua S.2 1 (2448 + 2 * S.2 1 4).toNat b) 1 4 + 1 ∧ 2448 + 2 * (hs_ua S.2 1 (2448 + 2 * S.2 1 4).toNat b) 1 4 + 1 ≤ 2147483647
      rw [e4]; omega
    · show 0 ≤ 2448 + 2 * (hs_ua S.2 1 (2448 + 2 * S.2 1 4).toNat b) 1 4 + 1 ∧ 2448 + 2 * (hs_ua S.2 1 (2448 + 2 * S.2 1 4).toNat b) 1 4 + 1 < (23016 : Nat)
      rw [e4]; omega
    · show -2147483648 ≤ (hs_ua (hs_ua S.2 1 (2448 + 2 * S.2 1 4).toNat b) 1 (2448 + 2 * (hs_ua S.2 1 (2448 + 2 * S.2 1 4).toNat b) 1 4 + 1).toNat s) 1 4 + 1 ∧ (hs_ua (hs_ua S.2 1 (2448 + 2 * S.2 1 4).toNat b) 1 (2448 + 2 * (hs_ua S.2 1 (2448 + 2 * S.2 1 4).toNat b) 1 4 + 1).toNat s) 1 4 + 1 ≤ 2147483647
      rw [e5]; omega
    · show -2147483648 ≤ (hs_ua (hs_ua (hs_ua S.2 1 (2448 + 2 * S.2 1 4).toNat b) 1 (2448 + 2 * (hs_ua S.2 1 (2448 + 2 * S.2 1 4).toNat b) 1 4 + 1).toNat s) 1 4 ((hs_ua (hs_ua S.2 1 (2448 + 2 * S.2 1 4).toNat b) 1 (2448 + 2 * (hs_ua S.2 1 (2448 + 2 * S.2 1 4).toNat b) 1 4 + 1).toNat s) 1 4 + 1)) 1 4 - 1 ∧ (hs_ua (hs_ua (hs_ua S.2 1 (2448 + 2 * S.2 1 4).toNat b) 1 (2448 + 2 * (hs_ua S.2 1 (2448 + 2 * S.2 1 4).toNat b) 1 4 + 1).toNat s) 1 4 ((hs_ua (hs_ua S.2 1 (2448 + 2 * S.2 1 4).toNat b) 1 (2448 + 2 * (hs_ua S.2 1 (2448 + 2 * S.2 1 4).toNat b) 1 4 + 1).toNat s) 1 4 + 1)) 1 4 - 1 ≤ 2147483647
      rw [e6]; omega
    · exact q4 hs ⟨b1, b2⟩ g ((hs_ua (hs_ua (hs_ua S.2 1 (2448 + 2 * S.2 1 4).toNat b) 1 (2448 + 2 * (hs_ua S.2 1 (2448 + 2 * S.2 1 4).toNat b) 1 4 + 1).toNat s) 1 4 ((hs_ua (hs_ua S.2 1 (2448 + 2 * S.2 1 4).toNat b) 1 (2448 + 2 * (hs_ua S.2 1 (2448 + 2 * S.2 1 4).toNat b) 1 4 + 1).toNat s) 1 4 + 1)) 1 4 - 1) ((hs_ua (hs_ua S.2 1 (2448 + 2 * S.2 1 4).toNat b) 1 (2448 + 2 * (hs_ua S.2 1 (2448 + 2 * S.2 1 4).toNat b) 1 4 + 1).toNat s) 1 4 + 1) (hs_ua (hs_ua S.2 1 (2448 + 2 * S.2 1 4).toNat b) 1 (2448 + 2 * (hs_ua S.2 1 (2448 + 2 * S.2 1 4).toNat b) 1 4 + 1).toNat s) e6 (by rw [e5]) r2 w
  · cases h
theorem c_hand : hs_C hs_sh 63 t_hand := by
  refine hs_met0 (nL := 7) (n0 := 160) [] e_r (by decide +kernel) rfl rfl ?_
  intro as S post h
  unfold t_hand at h
  split at h
  · rename_i z b hh d s k
    obtain ⟨rfl, h4, h5, q1, q2, q3, q4⟩ := h
    refine ⟨Nat.le_of_ble_eq_true rfl, ?_⟩
    refine And.intro (fun a0 b0 => ce1 ?_) (fun a0 => ce0 ?_)
    rotate_left
    · exact ⟨rfl, fun w => q1 (fun q => a0 q.1) w⟩
    refine And.intro (fun a1 b1 => ce1 ?_) (fun a1 => ce0 ?_)
    rotate_left
    · exact ⟨rfl, fun w => q1 (fun q => a1 q.2.1) w⟩
    refine And.intro (fun a2 b2 => ce1 ?_) (fun a2 => ce0 ?_)
    rotate_left
    · exact ⟨rfl, fun w => q1 (fun q => a2 q.2.2.1) w⟩
    refine And.intro (fun a3 b3 => cn1 ?_) (fun a3 => cn0 ?_)
    rotate_left
    · exact ⟨rfl, fun w => q1 (fun q => a3 q.2.2.2) w⟩
    have hok : t_okh hh d s k := ⟨⟨a0, b0⟩, ⟨a1, b1⟩, ⟨a2, b2⟩, ⟨a3, b3⟩⟩
    refine And.intro rfl (And.intro h4 (And.intro (fun b1 b2 => cn1 ?_) (fun b1 => cn0 ?_)))
    rotate_left
    · exact ⟨rfl, fun w => q2 hok b1 w⟩
    refine And.intro ⟨by decide, by decide⟩ (And.intro (fun g => ?_) (fun g => ?_))
    rotate_left
    · exact ⟨rfl, fun w => q3 hok ⟨b1, b2⟩ g w⟩
    have g : ¬ S.2 1 5 = 200 := g
    have r0 : u_row S 1 (2528 + 5 * S.2 1 5) 5 [] S.2 := ⟨fun _ _ => rfl, fun _ _ => rfl, fun i v e => by cases e⟩
    have r1 : u_row S 1 (2528 + 5 * S.2 1 5) 5 [b] (hs_ua S.2 1 (2528 + 5 * S.2 1 5).toNat b) := u_row.put (vs := []) (by omega) (by show (((0 : Nat)) : Int) < 5; decide) (by show 2528 + 5 * S.2 1 5 = 2528 + 5 * S.2 1 5 + ((0 : Nat) : Int); omega) r0
    have r2 : u_row S 1 (2528 + 5 * S.2 1 5) 5 [b, hh] (hs_ua (hs_ua S.2 1 (2528 + 5 * S.2 1 5).toNat b) 1 (2528 + 5 * S.2 1 5 + 1).toNat hh) := u_row.put (vs := [b]) (by omega) (by show (((1 : Nat)) : Int) < 5; decide) (by show 2528 + 5 * S.2 1 5 + 1 = 2528 + 5 * S.2 1 5 + ((1 : Nat) : Int); omega) r1
    have r3 : u_row S 1 (2528 + 5 * S.2 1 5) 5 [b, hh, d] (hs_ua (hs_ua (hs_ua S.2 1 (2528 + 5 * S.2 1 5).toNat b) 1 (2528 + 5 * S.2 1 5 + 1).toNat hh) 1 (2528 + 5 * S.2 1 5 + 2).toNat d) := u_row.put (vs := [b, hh]) (by omega) (by show (((2 : Nat)) : Int) < 5; decide) (by show 2528 + 5 * S.2 1 5 + 2 = 2528 + 5 * S.2 1 5 + ((2 : Nat) : Int); omega) r2
    have r4 : u_row S 1 (2528 + 5 * S.2 1 5) 5 [b, hh, d, s] (hs_ua (hs_ua (hs_ua (hs_ua S.2 1 (2528 + 5 * S.2 1 5).toNat b) 1 (2528 + 5 * S.2 1 5 + 1).toNat hh) 1 (2528 + 5 * S.2 1 5 + 2).toNat d) 1 (2528 + 5 * S.2 1 5 + 3).toNat s) := u_row.put (vs := [b, hh, d]) (by omega) (by show (((3 : Nat)) : Int) < 5; decide) (by show 2528 + 5 * S.2 1 5 + 3 = 2528 + 5 * S.2 1 5 + ((3 : Nat) : Int); omega) r3
    have r5 : u_row S 1 (2528 + 5 * S.2 1 5) 5 [b, hh, d, s, k] (hs_ua (hs_ua (hs_ua (hs_ua (hs_ua S.2 1 (2528 + 5 * S.2 1 5).toNat b) 1 (2528 + 5 * S.2 1 5 + 1).toNat hh) 1 (2528 + 5 * S.2 1 5 + 2).toNat d) 1 (2528 + 5 * S.2 1 5 + 3).toNat s) 1 (2528 + 5 * S.2 1 5 + 4).toNat k) := u_row.put (vs := [b, hh, d, s]) (by omega) (by show (((4 : Nat)) : Int) < 5; decide) (by show 2528 + 5 * S.2 1 5 + 4 = 2528 + 5 * S.2 1 5 + ((4 : Nat) : Int); omega) r4
    have e5 : (hs_ua (hs_ua (hs_ua (hs_ua (hs_ua S.2 1 (2528 + 5 * S.2 1 5).toNat b) 1 (2528 + 5 * S.2 1 5 + 1).toNat hh) 1 (2528 + 5 * S.2 1 5 + 2).toNat d) 1 (2528 + 5 * S.2 1 5 + 3).toNat s) 1 (2528 + 5 * S.2 1 5 + 4).toNat k) 1 5 = S.2 1 5 := r5.2.1 5 (by omega)
    have e6 : (hs_ua (hs_ua (hs_ua (hs_ua (hs_ua (hs_ua S.2 1 (2528 + 5 * S.2 1 5).toNat b) 1 (2528 + 5 * S.2 1 5 + 1).toNat hh) 1 (2528 + 5 * S.2 1 5 + 2).toNat d) 1 (2528 + 5 * S.2 1 5 + 3).toNat s) 1 (2528 + 5 * S.2 1 5 + 4).toNat k) 1 5 ((hs_ua (hs_ua (hs_ua (hs_ua (hs_ua S.2 1 (2528 + 5 * S.2 1 5).toNat b) 1 (2528 + 5 * S.2 1 5 + 1).toNat hh) 1 (2528 + 5 * S.2 1 5 + 2).toNat d) 1 (2528 + 5 * S.2 1 5 + 3).toNat s) 1 (2528 + 5 * S.2 1 5 + 4).toNat k) 1 5 + 1)) 1 5 = S.2 1 5 + 1 := by
      rw [hs_ua_k, if_pos rfl, e5]
    refine And.intro ⟨by decide, by decide⟩ (And.intro ?_ (And.intro ?_ (And.intro rfl (And.intro ?_ (And.intro ?_ (And.intro ?_ (And.intro ⟨by decide, by decide⟩ (And.intro ?_ (And.intro ⟨by decide, by decide⟩ (And.intro ⟨by decide, by decide⟩ ?_))))))))))
    · show -2147483648 ≤ 5 * S.2 1 5 ∧ 5 * S.2 1 5 ≤ 2147483647
      omega
    · show -2147483648 ≤ 2528 + 5 * S.2 1 5 ∧ 2528 + 5 * S.2 1 5 ≤ 2147483647
      omega
    · show 0 ≤ 2528 + 5 * S.2 1 5 ∧ 2528 + 5 * S.2 1 5 < 23013
      omega
    · show -2147483648 ≤ 2528 + 5 * S.2 1 5 + 4 ∧ 2528 + 5 * S.2 1 5 + 4 ≤ 2147483647
      omega
    · show 0 ≤ 2528 + 5 * S.2 1 5 + 4 ∧ 2528 + 5 * S.2 1 5 + 4 < (23016 : Nat)
      omega
    · show -2147483648 ≤ (hs_ua (hs_ua (hs_ua (hs_ua (hs_ua S.2 1 (2528 + 5 * S.2 1 5).toNat b) 1 (2528 + 5 * S.2 1 5 + 1).toNat hh) 1 (2528 + 5 * S.2 1 5 + 2).toNat d) 1 (2528 + 5 * S.2 1 5 + 3).toNat s) 1 (2528 + 5 * S.2 1 5 + 4).toNat k) 1 5 + 1 ∧ (hs_ua (hs_ua (hs_ua (hs_ua (hs_ua S.2 1 (2528 + 5 * S.2 1 5).toNat b) 1 (2528 + 5 * S.2 1 5 + 1).toNat hh) 1 (2528 + 5 * S.2 1 5 + 2).toNat d) 1 (2528 + 5 * S.2 1 5 + 3).toNat s) 1 (2528 + 5 * S.2 1 5 + 4).toNat k) 1 5 + 1 ≤ 2147483647
      rw [e5]; omega
    · exact And.intro rfl (fun w => q4 hok ⟨b1, b2⟩ g ((hs_ua (hs_ua (hs_ua (hs_ua (hs_ua (hs_ua S.2 1 (2528 + 5 * S.2 1 5).toNat b) 1 (2528 + 5 * S.2 1 5 + 1).toNat hh) 1 (2528 + 5 * S.2 1 5 + 2).toNat d) 1 (2528 + 5 * S.2 1 5 + 3).toNat s) 1 (2528 + 5 * S.2 1 5 + 4).toNat k) 1 5 ((hs_ua (hs_ua (hs_ua (hs_ua (hs_ua S.2 1 (2528 + 5 * S.2 1 5).toNat b) 1 (2528 + 5 * S.2 1 5 + 1).toNat hh) 1 (2528 + 5 * S.2 1 5 + 2).toNat d) 1 (2528 + 5 * S.2 1 5 + 3).toNat s) 1 (2528 + 5 * S.2 1 5 + 4).toNat k) 1 5 + 1)) 1 5) ((hs_ua (hs_ua (hs_ua (hs_ua (hs_ua S.2 1 (2528 + 5 * S.2 1 5).toNat b) 1 (2528 + 5 * S.2 1 5 + 1).toNat hh) 1 (2528 + 5 * S.2 1 5 + 2).toNat d) 1 (2528 + 5 * S.2 1 5 + 3).toNat s) 1 (2528 + 5 * S.2 1 5 + 4).toNat k) 1 5 + 1) (hs_ua (hs_ua (hs_ua (hs_ua (hs_ua S.2 1 (2528 + 5 * S.2 1 5).toNat b) 1 (2528 + 5 * S.2 1 5 + 1).toNat hh) 1 (2528 + 5 * S.2 1 5 + 2).toNat d) 1 (2528 + 5 * S.2 1 5 + 3).toNat s) 1 (2528 + 5 * S.2 1 5 + 4).toNat k) e6 (by rw [e5]) r5 w)
  · cases h
theorem c_count : hs_C hs_sh 48 t_count := by
  refine hs_met0 (nL := 7) (n0 := 160) [] e_r (by decide +kernel) rfl rfl ?_
  intro as S post h
  unfold t_count at h
  split at h
  · rename_i z b y m n k
    obtain ⟨rfl, h4, h5, q1, q2, q3, q4⟩ := h
    refine ⟨Nat.le_of_ble_eq_true rfl, ?_⟩
    refine And.intro (fun a0 b0 => ce1 ?_) (fun a0 => ce0 ?_)
    rotate_left
    · exact ⟨rfl, fun w => q1 (fun q => a0 q.1) w⟩
    refine And.intro (fun a1 b1 => ce1 ?_) (fun a1 => ce0 ?_)
    rotate_left
    · exact ⟨rfl, fun w => q1 (fun q => a1 q.2.1) w⟩
    refine And.intro (fun a2 b2 => ce1 ?_) (fun a2 => ce0 ?_)
    rotate_left
    · exact ⟨rfl, fun w => q1 (fun q => a2 q.2.2.1) w⟩
    refine And.intro (fun a3 b3 => cn1 ?_) (fun a3 => cn0 ?_)
    rotate_left
    · exact ⟨rfl, fun w => q1 (fun q => a3 q.2.2.2) w⟩
    have hok : t_okc y m n k := ⟨⟨a0, b0⟩, ⟨a1, b1⟩, ⟨a2, b2⟩, ⟨a3, b3⟩⟩
    refine And.intro rfl (And.intro h4 (And.intro (fun b1 b2 => cn1 ?_) (fun b1 => cn0 ?_)))
    rotate_left
    · exact ⟨rfl, fun w => q2 hok b1 w⟩
    refine And.intro ⟨by decide, by decide⟩ (And.intro (fun g => ?_) (fun g => ?_))
    rotate_left
    · exact ⟨rfl, fun w => q3 hok ⟨b1, b2⟩ g w⟩
    have g : ¬ S.2 1 6 = 200 := g
    have r0 : u_row S 1 (4008 + 5 * S.2 1 6) 5 [] S.2 := ⟨fun _ _ => rfl, fun _ _ => rfl, fun i v e => by cases e⟩
    have r1 : u_row S 1 (4008 + 5 * S.2 1 6) 5 [b] (hs_ua S.2 1 (4008 + 5 * S.2 1 6).toNat b) := u_row.put (vs := []) (by omega) (by show (((0 : Nat)) : Int) < 5; decide) (by show 4008 + 5 * S.2 1 6 = 4008 + 5 * S.2 1 6 + ((0 : Nat) : Int); omega) r0
    have r2 : u_row S 1 (4008 + 5 * S.2 1 6) 5 [b, y] (hs_ua (hs_ua S.2 1 (4008 + 5 * S.2 1 6).toNat b) 1 (4008 + 5 * S.2 1 6 + 1).toNat y) := u_row.put (vs := [b]) (by omega) (by show (((1 : Nat)) : Int) < 5; decide) (by show 4008 + 5 * S.2 1 6 + 1 = 4008 + 5 * S.2 1 6 + ((1 : Nat) : Int); omega) r1
    have r3 : u_row S 1 (4008 + 5 * S.2 1 6) 5 [b, y, m] (hs_ua (hs_ua (hs_ua S.2 1 (4008 + 5 * S.2 1 6).toNat b) 1 (4008 + 5 * S.2 1 6 + 1).toNat y) 1 (4008 + 5 * S.2 1 6 + 2).toNat m) := u_row.put (vs := [b, y]) (by omega) (by show (((2 : Nat)) : Int) < 5; decide) (by show 4008 + 5 * S.2 1 6 + 2 = 4008 + 5 * S.2 1 6 + ((2 : Nat) : Int); omega) r2
    have r4 : u_row S 1 (4008 + 5 * S.2 1 6) 5 [b, y, m, n] (hs_ua (hs_ua (hs_ua (hs_ua S.2 1 (4008 + 5 * S.2 1 6).toNat b) 1 (4008 + 5 * S.2 1 6 + 1).toNat y) 1 (4008 + 5 * S.2 1 6 + 2).toNat m) 1 (4008 + 5 * S.2 1 6 + 3).toNat n) := u_row.put (vs := [b, y, m]) (by omega) (by show (((3 : Nat)) : Int) < 5; decide) (by show 4008 + 5 * S.2 1 6 + 3 = 4008 + 5 * S.2 1 6 + ((3 : Nat) : Int); omega) r3
    have r5 : u_row S 1 (4008 + 5 * S.2 1 6) 5 [b, y, m, n, k] (hs_ua (hs_ua (hs_ua (hs_ua (hs_ua S.2 1 (4008 + 5 * S.2 1 6).toNat b) 1 (4008 + 5 * S.2 1 6 + 1).toNat y) 1 (4008 + 5 * S.2 1 6 + 2).toNat m) 1 (4008 + 5 * S.2 1 6 + 3).toNat n) 1 (4008 + 5 * S.2 1 6 + 4).toNat k) := u_row.put (vs := [b, y, m, n]) (by omega) (by show (((4 : Nat)) : Int) < 5; decide) (by show 4008 + 5 * S.2 1 6 + 4 = 4008 + 5 * S.2 1 6 + ((4 : Nat) : Int); omega) r4
    have e5 : (hs_ua (hs_ua (hs_ua (hs_ua (hs_ua S.2 1 (4008 + 5 * S.2 1 6).toNat b) 1 (4008 + 5 * S.2 1 6 + 1).toNat y) 1 (4008 + 5 * S.2 1 6 + 2).toNat m) 1 (4008 + 5 * S.2 1 6 + 3).toNat n) 1 (4008 + 5 * S.2 1 6 + 4).toNat k) 1 6 = S.2 1 6 := r5.2.1 6 (by omega)
    have e6 : (hs_ua (hs_ua (hs_ua (hs_ua (hs_ua (hs_ua S.2 1 (4008 + 5 * S.2 1 6).toNat b) 1 (4008 + 5 * S.2 1 6 + 1).toNat y) 1 (4008 + 5 * S.2 1 6 + 2).toNat m) 1 (4008 + 5 * S.2 1 6 + 3).toNat n) 1 (4008 + 5 * S.2 1 6 + 4).toNat k) 1 6 ((hs_ua (hs_ua (hs_ua (hs_ua (hs_ua S.2 1 (4008 + 5 * S.2 1 6).toNat b) 1 (4008 + 5 * S.2 1 6 + 1).toNat y) 1 (4008 + 5 * S.2 1 6 + 2).toNat m) 1 (4008 + 5 * S.2 1 6 + 3).toNat n) 1 (4008 + 5 * S.2 1 6 + 4).toNat k) 1 6 + 1)) 1 6 = S.2 1 6 + 1 := by
      rw [hs_ua_k, if_pos rfl, e5]
    refine And.intro ⟨by decide, by decide⟩ (And.intro ?_ (And.intro ?_ (And.intro rfl (And.intro ?_ (And.intro ?_ (And.intro ?_ (And.intro ⟨by decide, by decide⟩ (And.intro ?_ (And.intro ⟨by decide, by decide⟩ (And.intro ⟨by decide, by decide⟩ ?_))))))))))
    · show -2147483648 ≤ 5 * S.2 1 6 ∧ 5 * S.2 1 6 ≤ 2147483647
      omega
    · show -2147483648 ≤ 4008 + 5 * S.2 1 6 ∧ 4008 + 5 * S.2 1 6 ≤ 2147483647
      omega
    · show 0 ≤ 4008 + 5 * S.2 1 6 ∧ 4008 + 5 * S.2 1 6 < 23013
      omega
    · show -2147483648 ≤ 4008 + 5 * S.2 1 6 + 4 ∧ 4008 + 5 * S.2 1 6 + 4 ≤ 2147483647
      omega
    · show 0 ≤ 4008 + 5 * S.2 1 6 + 4 ∧ 4008 + 5 * S.2 1 6 + 4 < (23016 : Nat)
      omega
    · show -2147483648 ≤ (hs_ua (hs_ua (hs_ua (hs_ua (hs_ua S.2 1 (4008 + 5 * S.2 1 6).toNat b) 1 (4008 + 5 * S.2 1 6 + 1).toNat y) 1 (4008 + 5 * S.2 1 6 + 2).toNat m) 1 (4008 + 5 * S.2 1 6 + 3).toNat n) 1 (4008 + 5 * S.2 1 6 + 4).toNat k) 1 6 + 1 ∧ (hs_ua (hs_ua (hs_ua (hs_ua (hs_ua S.2 1 (4008 + 5 * S.2 1 6).toNat b) 1 (4008 + 5 * S.2 1 6 + 1).toNat y) 1 (4008 + 5 * S.2 1 6 + 2).toNat m) 1 (4008 + 5 * S.2 1 6 + 3).toNat n) 1 (4008 + 5 * S.2 1 6 + 4).toNat k) 1 6 + 1 ≤ 2147483647
      rw [e5]; omega
    · refine And.intro ?_ (And.intro rfl (fun w => q4 hok ⟨b1, b2⟩ g ((hs_ua (hs_ua (hs_ua (hs_ua (hs_ua (hs_ua S.2 1 (4008 + 5 * S.2 1 6).toNat b) 1 (4008 + 5 * S.2 1 6 + 1).toNat y) 1 (4008 + 5 * S.2 1 6 + 2).toNat m) 1 (4008 + 5 * S.2 1 6 + 3).toNat n) 1 (4008 + 5 * S.2 1 6 + 4).toNat k) 1 6 ((hs_ua (hs_ua (hs_ua (hs_ua (hs_ua S.2 1 (4008 + 5 * S.2 1 6).toNat b) 1 (4008 + 5 * S.2 1 6 + 1).toNat y) 1 (4008 + 5 * S.2 1 6 + 2).toNat m) 1 (4008 + 5 * S.2 1 6 + 3).toNat n) 1 (4008 + 5 * S.2 1 6 + 4).toNat k) 1 6 + 1)) 1 6 - 1) ((hs_ua (hs_ua (hs_ua (hs_ua (hs_ua S.2 1 (4008 + 5 * S.2 1 6).toNat b) 1 (4008 + 5 * S.2 1 6 + 1).toNat y) 1 (4008 + 5 * S.2 1 6 + 2).toNat m) 1 (4008 + 5 * S.2 1 6 + 3).toNat n) 1 (4008 + 5 * S.2 1 6 + 4).toNat k) 1 6 + 1) (hs_ua (hs_ua (hs_ua (hs_ua (hs_ua S.2 1 (4008 + 5 * S.2 1 6).toNat b) 1 (4008 + 5 * S.2 1 6 + 1).toNat y) 1 (4008 + 5 * S.2 1 6 + 2).toNat m) 1 (4008 + 5 * S.2 1 6 + 3).toNat n) 1 (4008 + 5 * S.2 1 6 + 4).toNat k) (by rw [e6]; omega) (by rw [e5]) r5 w))
      show -2147483648 ≤ (hs_ua (hs_ua (hs_ua (hs_ua (hs_ua (hs_ua S.2 1 (4008 + 5 * S.2 1 6).toNat b) 1 (4008 + 5 * S.2 1 6 + 1).toNat y) 1 (4008 + 5 * S.2 1 6 + 2).toNat m) 1 (4008 + 5 * S.2 1 6 + 3).toNat n) 1 (4008 + 5 * S.2 1 6 + 4).toNat k) 1 6 ((hs_ua (hs_ua (hs_ua (hs_ua (hs_ua S.2 1 (4008 + 5 * S.2 1 6).toNat b) 1 (4008 + 5 * S.2 1 6 + 1).toNat y) 1 (4008 + 5 * S.2 1 6 + 2).toNat m) 1 (4008 + 5 * S.2 1 6 + 3).toNat n) 1 (4008 + 5 * S.2 1 6 + 4).toNat k) 1 6 + 1)) 1 6 - 1 ∧ (hs_ua (hs_ua (hs_ua (hs_ua (hs_ua (hs_ua S.2 1 (4008 + 5 * S.2 1 6).toNat b) 1 (4008 + 5 * S.2 1 6 + 1).toNat y) 1 (4008 + 5 * S.2 1 6 + 2).toNat m) 1 (4008 + 5 * S.2 1 6 + 3).toNat n) 1 (4008 + 5 * S.2 1 6 + 4).toNat k) 1 6 ((hs_ua (hs_ua (hs_ua (hs_ua (hs_ua S.2 1 (4008 + 5 * S.2 1 6).toNat b) 1 (4008 + 5 * S.2 1 6 + 1).toNat y) 1 (4008 + 5 * S.2 1 6 + 2).toNat m) 1 (4008 + 5 * S.2 1 6 + 3).toNat n) 1 (4008 + 5 * S.2 1 6 + 4).toNat k) 1 6 + 1)) 1 6 - 1 ≤ 2147483647
      rw [e6]; omega
  · cases h
theorem c_alter : hs_C hs_sh 29 t_alter := by
  refine hs_met0 (nL := 3) (n0 := 160) [] e_r (by decide +kernel) rfl rfl ?_
  intro as S post h
  unfold t_alter at h
  split at h
  · rename_i z i m
    obtain ⟨rfl, h6, q1, q2, q3⟩ := h
    refine ⟨Nat.le_of_ble_eq_true rfl, ?_⟩
    refine And.intro (fun a0 b0 => cn1 ?_) (fun a0 => cn0 ?_)
    rotate_left
    · exact ⟨rfl, fun w => q1 a0 w⟩
    have hm : 1 ≤ m ∧ m ≤ 255 := ⟨a0, b0⟩
    refine And.intro ⟨by decide, by decide⟩ (fun x hx => ?_)
    have hx : x = S.2 1 6 - 1 := hx (by show -9223372036854775808 ≤ S.2 1 6 - 1; omega) (by show S.2 1 6 - 1 ≤ 9223372036854775807; omega)
    subst hx
    refine And.intro (fun a1 b1 => cn1 ?_) (fun a1 => cn0 ?_)
    rotate_left
    · have a1 : ¬ ((0 : Int) ≤ i ∧ i ≤ S.2 1 6 - 1) := a1
      exact ⟨rfl, fun w => q2 hm (by omega) w⟩
    have a1 : (0 : Int) ≤ i := a1
    have b1 : i ≤ S.2 1 6 - 1 := b1
    have n1 : -2147483648 ≤ 5 * i ∧ 5 * i ≤ 2147483647 := by omega
    have n2 : -2147483648 ≤ 4008 + 5 * i ∧ 4008 + 5 * i ≤ 2147483647 := by omega
    have n3 : -2147483648 ≤ 4008 + 5 * i + 3 ∧ 4008 + 5 * i + 3 ≤ 2147483647 := by omega
    have n4 : 0 ≤ 4008 + 5 * i + 3 ∧ 4008 + 5 * i + 3 < (23016 : Nat) := by omega
    refine And.intro n1 (And.intro n2 (And.intro n3 (And.intro n4 (fun v hv => And.intro n4 (And.intro n1 (And.intro n2 (And.intro n3 (And.intro n4 (And.intro rfl (fun w => ?_))))))))))
    have hv : v = (Int32.ofInt (S.2 1 (4008 + 5 * i + 3).toNat) ^^^ Int32.ofInt m).toInt := hv
    have er : hs_ua S.2 1 (4008 + 5 * i + 3).toNat v 1 (4008 + 5 * i + 3).toNat = v := by rw [hs_ua_k, if_pos rfl]
    exact q3 hm ⟨a1, by omega⟩ _ v er hv w
  · cases h
theorem c_keep : hs_C hs_sh 91 t_keep := by
  refine hs_met0 (nL := 3) (n0 := 160) [] e_r (by decide +kernel) rfl rfl ?_
  intro as S post h
  unfold t_keep at h
  split at h
  · rename_i z s y
    obtain ⟨rfl, q1, q2, q3⟩ := h
    refine ⟨Nat.le_of_ble_eq_true rfl, ?_⟩
    refine And.intro (fun a0 b0 => ce1 ?_) (fun a0 => ce0 ?_)
    rotate_left
    · exact ⟨rfl, fun w => q1 (fun q => a0 q.1) w⟩
    refine And.intro (fun a1 b1 => cn1 ?_) (fun a1 => cn0 ?_)
    rotate_left
    · exact ⟨rfl, fun w => q1 (fun q => a1 q.2) w⟩
    have hok : (0 ≤ s ∧ s ≤ 5) ∧ 0 ≤ y ∧ y ≤ 7 := ⟨⟨a0, b0⟩, a1, b1⟩
    have n1 : -2147483648 ≤ 8 * s ∧ 8 * s ≤ 2147483647 := by omega
    have n2 : -2147483648 ≤ 5008 + 8 * s ∧ 5008 + 8 * s ≤ 2147483647 := by omega
    have n3 : -2147483648 ≤ 5008 + 8 * s + y ∧ 5008 + 8 * s + y ≤ 2147483647 := by omega
    have n4 : 0 ≤ 5008 + 8 * s + y ∧ 5008 + 8 * s + y < (23016 : Nat) := by omega
    refine And.intro n1 (And.intro n2 (And.intro n3 (And.intro n4 (And.intro (fun g => ?_) (fun g => ?_)))))
    · exact And.intro n1 (And.intro n2 (And.intro n3 (And.intro n4 (And.intro rfl (fun w => q3 hok g w)))))
    · exact ⟨rfl, fun w => q2 hok g w⟩
  · cases h
end Y24

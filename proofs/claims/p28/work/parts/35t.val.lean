/-! ===== what may stand in the tables ===== -/
theorem ab_xb {a m : Int} (ha : 0 ≤ a ∧ a ≤ 16383) (hm : 1 ≤ m ∧ m ≤ 255) : 0 ≤ ab_x a m ∧ ab_x a m ≤ 16383 := by
  have e : ∀ z : Int, 0 ≤ z → z ≤ 16383 → (Int32.ofInt z).toBitVec.toNat = z.toNat := fun z h1 h2 => by
    show (BitVec.ofInt 32 z).toNat = z.toNat
    rw [BitVec.toNat_ofInt, Int.emod_eq_of_lt h1 (by omega)]
  have hx : (Int32.ofInt a ^^^ Int32.ofInt m).toBitVec.toNat = a.toNat ^^^ m.toNat := by
    rw [Int32.toBitVec_xor, BitVec.toNat_xor, e a ha.1 ha.2, e m (by omega) (by omega)]
  have hb : a.toNat ^^^ m.toNat < 2 ^ 14 := Nat.xor_lt_two_pow (by omega) (by omega)
  have h14 : (2 : Nat) ^ 14 = 16384 := rfl
  rw [h14] at hb
  have h : ab_x a m = ((a.toNat ^^^ m.toNat : Nat) : Int) := by
    show (Int32.ofInt a ^^^ Int32.ofInt m).toBitVec.toInt = _
    rw [BitVec.toInt_eq_toNat_of_lt (by rw [hx]; omega), hx]
  rw [h]
  omega
/-- counts and tables are as they may be -/
def tnv (n R : Nat → Int) (q : ab_T) : Prop := (∀ t, ¬ t = 2 → ¬ t = 3 → ¬ t = 4 → t < 26 → ab_n n q.2 t = n t) ∧ tn (ab_n n q.2) ∧ tvx (ab_n n q.2) (ab_R R q.2)
theorem tnv_no {n R : Nat → Int} {v : Int} (hn : tn n) (hv : tvx n R) : tnv n R (v, none) := ⟨fun _ _ _ _ _ => rfl, hn, hv⟩
theorem tnv_box {n R : Nat → Int} (hn : tn n) (hv : tvx n R) (b s : Int) : tnv n R (ab_box n b s) := by
  unfold ab_box
  split
  · exact tnv_no hn hv
  · split
    · exact tnv_no hn hv
    · split
      · exact tnv_no hn hv
      · rename_i h1 h2 h3
        obtain ⟨n1, n2, n3, n4⟩ := hn
        refine ⟨fun t a _ _ _ => if_neg a, ⟨n1, ?_, n3, n4⟩, fun i hi => ?_, fun i hi => ?_⟩
        · show 0 ≤ n 2 + 1 ∧ n 2 + 1 ≤ 40
          omega
        · have hi : (i : Int) < n 3 := hi
          show 0 ≤ tx_put R (2448 + 2 * (n 2).toNat) [b, s] (2528 + 5 * i)
          rw [tx_out (by show _ ∨ 2448 + 2 * (n 2).toNat + 2 ≤ _; omega)]
          exact hv.1 i hi
        · have hi : (i : Int) < n 4 := hi
          have g := hv.2 i hi
          show (0 ≤ tx_put R (2448 + 2 * (n 2).toNat) [b, s] (4008 + 5 * i) ∧ tx_put R (2448 + 2 * (n 2).toNat) [b, s] (4008 + 5 * i) < n 2 + 1) ∧ 0 ≤ tx_put R (2448 + 2 * (n 2).toNat) [b, s] (4008 + 5 * i + 3) ∧ tx_put R (2448 + 2 * (n 2).toNat) [b, s] (4008 + 5 * i + 3) ≤ 16383
          rw [tx_out (by show _ ∨ 2448 + 2 * (n 2).toNat + 2 ≤ _; omega), tx_out (by show _ ∨ 2448 + 2 * (n 2).toNat + 2 ≤ _; omega)]
          omega
theorem tnv_hand {n R : Nat → Int} (hn : tn n) (hv : tvx n R) (b x d s k : Int) : tnv n R (ab_hand n b x d s k) := by
  unfold ab_hand
  split
  · exact tnv_no hn hv
  · split
    · exact tnv_no hn hv
    · split
      · exact tnv_no hn hv
      · rename_i h1 h2 h3
        obtain ⟨n1, n2, n3, n4⟩ := hn
        refine ⟨fun t _ a _ _ => if_neg a, ⟨n1, n2, ?_, n4⟩, fun i hi => ?_, fun i hi => ?_⟩
        · show 0 ≤ n 3 + 1 ∧ n 3 + 1 ≤ 200
          omega
        · have hi : (i : Int) < n 3 + 1 := hi
          show 0 ≤ tx_put R (2528 + 5 * (n 3).toNat) [b, x, d, s, k] (2528 + 5 * i)
          by_cases e : i = (n 3).toNat
          · subst e
            have := tx_in (R := R) (p := 2528 + 5 * (n 3).toNat) (vs := [b, x, d, s, k]) (i := 0) rfl
            rw [Nat.add_zero] at this
            rw [this]
            omega
          · rw [tx_out (by show _ ∨ 2528 + 5 * (n 3).toNat + 5 ≤ _; omega)]
            exact hv.1 i (by omega)
        · have hi : (i : Int) < n 4 := hi
          have g := hv.2 i hi
          show (0 ≤ tx_put R (2528 + 5 * (n 3).toNat) [b, x, d, s, k] (4008 + 5 * i) ∧ tx_put R (2528 + 5 * (n 3).toNat) [b, x, d, s, k] (4008 + 5 * i) < n 2) ∧ 0 ≤ tx_put R (2528 + 5 * (n 3).toNat) [b, x, d, s, k] (4008 + 5 * i + 3) ∧ tx_put R (2528 + 5 * (n 3).toNat) [b, x, d, s, k] (4008 + 5 * i + 3) ≤ 16383
          rw [tx_out (by show _ ∨ 2528 + 5 * (n 3).toNat + 5 ≤ _; omega), tx_out (by show _ ∨ 2528 + 5 * (n 3).toNat + 5 ≤ _; omega)]
          exact g
theorem tnv_count {n R : Nat → Int} (hn : tn n) (hv : tvx n R) (b y m c k : Int) : tnv n R (ab_count n b y m c k) := by
  unfold ab_count
  split
  · exact tnv_no hn hv
  · split
    · exact tnv_no hn hv
    · split
      · exact tnv_no hn hv
      · rename_i h1 h2 h3
        obtain ⟨n1, n2, n3, n4⟩ := hn
        refine ⟨fun t _ _ a _ => if_neg a, ⟨n1, n2, n3, ?_⟩, fun i hi => ?_, fun i hi => ?_⟩
        · show 0 ≤ n 4 + 1 ∧ n 4 + 1 ≤ 200
          omega
        · have hi : (i : Int) < n 3 := hi
          show 0 ≤ tx_put R (4008 + 5 * (n 4).toNat) [b, y, m, c, k] (2528 + 5 * i)
          rw [tx_out (by omega)]
          exact hv.1 i hi
        · have hi : (i : Int) < n 4 + 1 := hi
          show (0 ≤ tx_put R (4008 + 5 * (n 4).toNat) [b, y, m, c, k] (4008 + 5 * i) ∧ tx_put R (4008 + 5 * (n 4).toNat) [b, y, m, c, k] (4008 + 5 * i) < n 2) ∧ 0 ≤ tx_put R (4008 + 5 * (n 4).toNat) [b, y, m, c, k] (4008 + 5 * i + 3) ∧ tx_put R (4008 + 5 * (n 4).toNat) [b, y, m, c, k] (4008 + 5 * i + 3) ≤ 16383
          by_cases e : i = (n 4).toNat
          · subst e
            have e0 := tx_in (R := R) (p := 4008 + 5 * (n 4).toNat) (vs := [b, y, m, c, k]) (i := 0) rfl
            have e3 := tx_in (R := R) (p := 4008 + 5 * (n 4).toNat) (vs := [b, y, m, c, k]) (i := 3) rfl
            rw [Nat.add_zero] at e0
            rw [e0, e3]
            omega
          · rw [tx_out (by show _ ∨ 4008 + 5 * (n 4).toNat + 5 ≤ _; omega), tx_out (by show _ ∨ 4008 + 5 * (n 4).toNat + 5 ≤ _; omega)]
            exact hv.2 i (by omega)
theorem tnv_keep {n R : Nat → Int} (hn : tn n) (hv : tvx n R) (s y : Int) : tnv n R (ab_keep R s y) := by
  unfold ab_keep
  split
  · exact tnv_no hn hv
  · split
    · exact tnv_no hn hv
    · obtain ⟨n1, n2, n3, n4⟩ := hn
      refine ⟨fun t _ _ _ a => if_neg (by omega), ⟨n1, n2, n3, n4⟩, fun i hi => ?_, fun i hi => ?_⟩
      · have hi : (i : Int) < n 3 := hi
        show 0 ≤ tx_put R (5008 + 8 * s.toNat + y.toNat) [1] (2528 + 5 * i)
        rw [tx_out (by omega)]
        exact hv.1 i hi
      · have hi : (i : Int) < n 4 := hi
        show (0 ≤ tx_put R (5008 + 8 * s.toNat + y.toNat) [1] (4008 + 5 * i) ∧ tx_put R (5008 + 8 * s.toNat + y.toNat) [1] (4008 + 5 * i) < n 2) ∧ 0 ≤ tx_put R (5008 + 8 * s.toNat + y.toNat) [1] (4008 + 5 * i + 3) ∧ tx_put R (5008 + 8 * s.toNat + y.toNat) [1] (4008 + 5 * i + 3) ≤ 16383
        rw [tx_out (by omega), tx_out (by omega)]
        exact hv.2 i hi
theorem tnv_alter {n R : Nat → Int} (hn : tn n) (hv : tvx n R) (j m : Int) : tnv n R (ab_alter n R j m) := by
  unfold ab_alter
  split
  · exact tnv_no hn hv
  · split
    · exact tnv_no hn hv
    · rename_i h1 h2
      obtain ⟨n1, n2, n3, n4⟩ := hn
      have g := hv.2 j.toNat (by omega)
      have hb := ab_xb (a := R (4008 + 5 * j.toNat + 3)) (m := m) g.2 (by omega)
      generalize ab_x (R (4008 + 5 * j.toNat + 3)) m = v at hb ⊢
      refine ⟨fun t _ _ _ a => if_neg (by omega), ⟨n1, n2, n3, n4⟩, fun i hi => ?_, fun i hi => ?_⟩
      · have hi : (i : Int) < n 3 := hi
        show 0 ≤ tx_put R (4008 + 5 * j.toNat + 3) [v] (2528 + 5 * i)
        rw [tx_out (by omega)]
        exact hv.1 i hi
      · have hi : (i : Int) < n 4 := hi
        have g2 := hv.2 i hi
        show (0 ≤ tx_put R (4008 + 5 * j.toNat + 3) [v] (4008 + 5 * i) ∧ tx_put R (4008 + 5 * j.toNat + 3) [v] (4008 + 5 * i) < n 2) ∧ 0 ≤ tx_put R (4008 + 5 * j.toNat + 3) [v] (4008 + 5 * i + 3) ∧ tx_put R (4008 + 5 * j.toNat + 3) [v] (4008 + 5 * i + 3) ≤ 16383
        rw [tx_out (j := 4008 + 5 * i) (by show _ ∨ 4008 + 5 * j.toNat + 3 + 1 ≤ _; omega)]
        refine ⟨g2.1, ?_⟩
        by_cases e : i = j.toNat
        · subst e
          have e0 := tx_in (R := R) (p := 4008 + 5 * j.toNat + 3) (vs := [v]) (i := 0) rfl
          rw [Nat.add_zero] at e0
          rw [e0]
          exact hb
        · rw [tx_out (by show _ ∨ 4008 + 5 * j.toNat + 3 + 1 ≤ _; omega)]
          exact g2.2
theorem tnv_ab {K : Nat} {n R : Nat → Int} (hn : tn n) (hv : tvx n R) (xs : List Int) : tnv n R (ab K n R xs) := by
  unfold ab
  split
  · cases (K == 309) with
    | true => exact tnv_box hn hv _ _
    | false =>
      rw [cond_false]
      cases (K == 332) with
      | true => exact tnv_keep hn hv _ _
      | false => exact tnv_alter hn hv _ _
  · cases (K == 322) with
    | true => exact tnv_hand hn hv _ _ _ _ _
    | false => exact tnv_count hn hv _ _ _ _ _
  · exact tnv_no hn hv
theorem tnv_cq {K : Nat} {S : hs_S} {n R : Nat → Int} (hn : tn n) (hv : tvx n R) (xs : List Int) : tnv n R (cq K S n R xs) := by
  unfold cq
  split
  · exact tnv_no hn hv
  · exact tnv_no hn hv
  · exact tnv_ab hn hv _
theorem tnv_rq {K : Nat} {Q n R : Nat → Int} (hn : tn n) (hv : tvx n R) (xs : List Int) : tnv n R (rqq K Q n R xs) := by
  unfold rqq
  split
  · exact tnv_no hn hv
  · exact tnv_no hn hv
  · exact tnv_ab hn hv _

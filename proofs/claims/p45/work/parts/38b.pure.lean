/-! ===== the pure methods of both classes that doors is made of ===== -/
theorem pu_of {i : Nat} (h : i < 2147483648) : (Int32.ofNat i).toInt = (i : Int) := Int32.toInt_ofNat_small h
theorem pu_inc (i : Nat) : Int32.ofNat i + Int32.ofInt 1 = Int32.ofNat (i + 1) := (Int32.ofNat_add i 1).symm
theorem pu_lt (x : Int32) : -2147483648 ≤ x.toInt ∧ x.toInt < 2147483648 := ⟨Int32.le_toInt x, Int32.toInt_lt x⟩
theorem pu_nz {i : Nat} (h : i + 1 < 2147483648) : ¬ (Int32.ofNat i + Int32.ofInt 1).toInt64 = 0 := by
  intro e
  have h1 := congrArg Int64.toInt e
  rw [Int32.toInt_toInt64, pu_inc, pu_of h] at h1
  have h2 : (0 : Int64).toInt = 0 := rfl
  rw [h2] at h1
  omega
def pu_b (b : Bool) : Int32 := match b with
  | true => 1
  | false => 0
theorem pu_b0 {b : Bool} : (pu_b b).toInt = 0 ↔ b = false := by
  cases b with
  | true => exact Iff.intro (fun h => absurd h (by decide +kernel)) (fun h => absurd h (by decide +kernel))
  | false => exact ⟨fun _ => rfl, fun _ => rfl⟩
def pu_g4 (a b c d : Value) : pu_L := [(4, a), (2, b), (0, c), (1, d)]
theorem pu_choices (n k : Int32) : pu_C 312 [.int n, .int k] (.long (dr_c n k)) := by
  by_cases hbad : k < 0 ∨ n < k
  · have hr : dr_c n k = 0 := if_pos hbad
    rw [hr]
    refine pu_met (nL := 5) (h := 100000) (N := 0) (n := 0) (n0 := 40) (bb := 0) (g := fun _ => []) (Inv := fun _ => False) rfl (by decide +kernel) (Nat.le_of_ble_eq_true rfl) rfl ?_ (fun _ _ h => h.elim)
    refine And.intro (fun _ => And.intro (And.intro rfl rfl) rfl) (fun h1 => And.intro (fun h2 => ?_) (fun _ => And.intro (And.intro rfl rfl) rfl))
    have h1' : ¬ k.toInt < 0 := h1
    have h2' : k.toInt ≤ n.toInt := Int.not_lt.mp h2
    rcases hbad with h | h
    · exact absurd (Int32.lt_iff_toInt_lt.mp h) h1'
    · have := Int32.lt_iff_toInt_lt.mp h
      exact absurd h2' (by omega)
  · have hr : dr_c n k = dr_v n k.toInt.toNat := if_neg hbad
    have hk0 : 0 ≤ k.toInt := by
      have : ¬ k.toInt < (0 : Int32).toInt := fun h => hbad (Or.inl (Int32.lt_iff_toInt_lt.mpr h))
      have h0 : (0 : Int32).toInt = 0 := rfl
      omega
    have hkn : k.toInt ≤ n.toInt := by
      have : ¬ n.toInt < k.toInt := fun h => hbad (Or.inr (Int32.lt_iff_toInt_lt.mpr h))
      omega
    have hlt := pu_lt k
    rw [hr]
    refine pu_met (nL := 5) (h := 16) (N := k.toInt.toNat) (n := 40) (n0 := 40) (bb := 100) (g := fun i => pu_g4 (.int (Int32.ofNat i)) (.long (dr_v n i)) (.int n) (.int k)) (Inv := fun _ => True) rfl (by decide +kernel) (Nat.le_of_ble_eq_true rfl) rfl ?_ ?_
    · refine And.intro (fun h1 => ?_) (fun _ => And.intro (fun _ => ?_) (fun h2 => ?_))
      · have h1' : k.toInt < 0 := h1
        exact absurd h1' (by omega)
      · exact And.intro trivial (And.intro trivial (And.intro rfl rfl))
      · exact absurd (Int.not_lt.mpr hkn) h2
    · intro i hi _
      have hoi : (Int32.ofNat i).toInt = (i : Int) := pu_of (by omega)
      refine And.intro (fun h1 => ?_) (fun h1 => ?_)
      · have h1' : k.toInt ≤ (Int32.ofNat i).toInt := Int.not_lt.mp h1
        have e : i = k.toInt.toNat := by omega
        rw [← e]
        exact And.intro (And.intro rfl rfl) rfl
      · have h1' : (Int32.ofNat i).toInt < k.toInt := Int.not_le.mp (fun h => h1 (Int.not_lt.mpr h))
        exact And.intro (pu_nz (by omega)) (And.intro (by omega) (And.intro trivial (And.intro (congrArg (fun z => pu_g4 (Value.int z) (.long (dr_v n (i + 1))) (.int n) (.int k)) (pu_inc i)) rfl)))

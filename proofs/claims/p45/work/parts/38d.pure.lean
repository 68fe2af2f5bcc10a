/-! ===== the reference's sum beside the class's two ===== -/
def dr_u (a d m : Int32) (p : Nat → Bool) : Nat → Int64
  | 0 => 0
  | i + 1 => dr_u a d m p i + (bif p i then dr_f a d m (Int32.ofNat i) else 0)
theorem dr_u1 {a d m : Int32} {p : Nat → Bool} {i : Nat} (h : p i = true) : dr_u a d m p i + dr_f a d m (Int32.ofNat i) = dr_u a d m p (i + 1) := by
  show _ = dr_u a d m p i + (bif p i then dr_f a d m (Int32.ofNat i) else 0)
  rw [h, cond_true]
theorem dr_u0 {a d m : Int32} {p : Nat → Bool} {i : Nat} (h : p i = false) : dr_u a d m p i + Int64.ofNat 0 = dr_u a d m p (i + 1) := by
  show _ = dr_u a d m p i + (bif p i then dr_f a d m (Int32.ofNat i) else 0)
  rw [h, cond_false]
  rfl
theorem dr_uz {a d m : Int32} {p : Nat → Bool} {i : Nat} (h : p i = false) : dr_u a d m p (i + 1) = dr_u a d m p i := by
  rw [← dr_u0 h]
  exact Int64.add_zero _
theorem dr_uA1 {a d m : Int32} {n : Nat} : ∀ i, i ≤ n + 1 → dr_u a d m (fun j => decide (j ≤ n)) i = dr_s a d m 0 i
  | 0, _ => rfl
  | i + 1, h => by
    rw [← dr_u1 (p := fun j => decide (j ≤ n)) (decide_eq_true (by omega)), dr_uA1 i (by omega)]
    show _ = dr_s a d m 0 i + dr_f a d m (0 + Int32.ofNat i)
    rw [Int32.zero_add]
theorem dr_uA2 {a d m : Int32} {n : Nat} : ∀ k, dr_u a d m (fun j => decide (j ≤ n)) (n + 1 + k) = dr_s a d m 0 (n + 1)
  | 0 => dr_uA1 (n + 1) (Nat.le_refl _)
  | k + 1 => (dr_uz (p := fun j => decide (j ≤ n)) (i := n + 1 + k) (decide_eq_false (by omega))).trans (dr_uA2 k)
theorem dr_uB1 {a d m : Int32} {n : Nat} : ∀ i, i ≤ n → dr_u a d m (fun j => decide (n ≤ j)) i = 0
  | 0, _ => rfl
  | i + 1, h => (dr_uz (p := fun j => decide (n ≤ j)) (i := i) (decide_eq_false (by omega))).trans (dr_uB1 i (by omega))
theorem dr_uB2 {a d m h : Int32} {n : Nat} (hn : Int32.ofNat n = h) : ∀ k, dr_u a d m (fun j => decide (n ≤ j)) (n + k) = dr_s a d m h k
  | 0 => dr_uB1 n (Nat.le_refl _)
  | k + 1 => by
    refine (dr_u1 (p := fun j => decide (n ≤ j)) (i := n + k) (decide_eq_true (by omega))).symm.trans ?_
    rw [dr_uB2 hn k, Int32.ofNat_add, hn]
    rfl
theorem dr_uA {a d m h : Int32} {N : Nat} (h0 : 0 ≤ h.toInt) (hN : h.toInt.toNat < N) : dr_u a d m (fun j => decide (j ≤ h.toInt.toNat)) N = dr_w a d m (Int32.ofInt 0) h := by
  have e : N = h.toInt.toNat + 1 + (N - (h.toInt.toNat + 1)) := by omega
  rw [e, dr_uA2, pe0]
  unfold dr_w
  rw [ai_z32, show (h.toInt + 1 - 0).toNat = h.toInt.toNat + 1 by omega]
theorem dr_uB {a d m h : Int32} (h0 : 0 ≤ h.toInt) (hh : h.toInt ≤ d.toInt) : dr_u a d m (fun j => decide (h.toInt.toNat ≤ j)) (d.toInt.toNat + 1) = dr_w a d m h d := by
  have e : d.toInt.toNat + 1 = h.toInt.toNat + (d.toInt.toNat + 1 - h.toInt.toNat) := by omega
  rw [e, dr_uB2 (pu_on h0)]
  unfold dr_w
  rw [show (d.toInt + 1 - h.toInt).toNat = d.toInt.toNat + 1 - h.toInt.toNat by omega]
def pu_g8 (a b c d e f g : Value) : pu_L := [(8, a), (6, b), (4, c), (0, d), (1, e), (2, f), (3, g)]
theorem pu_g8e {x y x' y' : Int64} {i : Nat} {d e f g : Value} (h1 : x = x') (h2 : y = y') : pu_g8 (.int (Int32.ofNat i + Int32.ofInt 1)) (.long x) (.long y) d e f g = pu_g8 (.int (Int32.ofNat (i + 1))) (.long x') (.long y') d e f g := by rw [h1, h2, pu_inc]
theorem pu_maybe (a d h m : Int32) (ha : a.toInt ≤ 60) (hd0 : 0 ≤ d.toInt) (hd : d.toInt ≤ 12) (hh0 : 0 ≤ h.toInt) (hh : h.toInt ≤ d.toInt) (hm0 : 0 ≤ m.toInt) (hm : m.toInt ≤ a.toInt) : pu_C 100 [.int a, .int d, .int h, .int m] (.int (pu_b (dr_b a d h m))) := by
  refine pu_met (nL := 11) (h := 9) (N := d.toInt.toNat + 1) (n := 80) (n0 := 40) (bb := 9) (g := fun i => pu_g8 (.int (Int32.ofNat i)) (.long (dr_u a d m (fun j => decide (h.toInt.toNat ≤ j)) i)) (.long (dr_u a d m (fun j => decide (j ≤ h.toInt.toNat)) i)) (.int a) (.int d) (.int h) (.int m)) (Inv := fun _ => True) rfl (by decide +kernel) (Nat.le_of_ble_eq_true rfl) rfl ?_ ?_
  · exact And.intro trivial (And.intro trivial (And.intro rfl rfl))
  · intro i hi _
    have hoi : (Int32.ofNat i).toInt = (i : Int) := pu_of (by omega)
    refine And.intro (fun h1 => ?_) (fun h1 => ?_)
    · have h1' : d.toInt < (Int32.ofNat i).toInt := h1
      have e : i = d.toInt.toNat + 1 := by omega
      have eA := dr_uA (a := a) (d := d) (m := m) (N := i) hh0 (by omega)
      have eB := dr_uB (a := a) (m := m) hh0 hh
      rw [← e] at eB
      refine And.intro rfl (Exists.intro _ (And.intro (pu_choose a d (by omega) ha hd) ?_))
      refine And.intro (fun h2 => And.intro (pu_rz rfl pz0) (pu_r0 ?_)) (fun h2 => And.intro (fun h3 => And.intro (pu_rz rfl pz0) (pu_r0 ?_)) (fun h3 => And.intro (pu_rz rfl pz1) (pu_r1 ?_)))
      · have h2' : (Int64.ofInt 20 * dr_u a d m (fun j => decide (j ≤ h.toInt.toNat)) i).toInt < (dr_c a d).toInt := (ai_lgc (q := .lt)).mp h2
        rw [eA] at h2'
        exact dr_b1 h2'
      · have h3' : (Int64.ofInt 20 * dr_u a d m (fun j => decide (h.toInt.toNat ≤ j)) i).toInt < (dr_c a d).toInt := (ai_lgc (q := .lt)).mp h3
        rw [eB] at h3'
        exact dr_b2 h3'
      · have h2' : ¬ (Int64.ofInt 20 * dr_u a d m (fun j => decide (j ≤ h.toInt.toNat)) i).toInt < (dr_c a d).toInt := fun z => h2 ((ai_lgc (q := .lt)).mpr z)
        have h3' : ¬ (Int64.ofInt 20 * dr_u a d m (fun j => decide (h.toInt.toNat ≤ j)) i).toInt < (dr_c a d).toInt := fun z => h3 ((ai_lgc (q := .lt)).mpr z)
        rw [eA] at h2'
        rw [eB] at h3'
        exact dr_b3 h2' h3'
    · have h1' : ¬ d.toInt < (Int32.ofNat i).toInt := h1
      have s1 := pu_sub (x := a) (y := m) (by omega) (by omega)
      have s2 := pu_sub (x := d) (y := Int32.ofNat i) (by omega) (by omega)
      refine And.intro rfl (Exists.intro _ (And.intro (pu_choose m (Int32.ofNat i) hm0 (by omega) (by omega)) ?_))
      refine And.intro rfl (Exists.intro _ (And.intro (pu_choose (a - m) (d - Int32.ofNat i) (by omega) (by omega) (by omega)) ?_))
      refine And.intro (fun h2 => And.intro (fun h3 => ?_) (fun h3 => ?_)) (fun h2 => And.intro (fun h3 => ?_) (fun h3 => ?_))
      · have h2' : h.toInt < (Int32.ofNat i).toInt := h2
        have h3' : (Int32.ofNat i).toInt < h.toInt := h3
        omega
      · have h2' : h.toInt < (Int32.ofNat i).toInt := h2
        exact And.intro (by omega) (And.intro trivial (And.intro (pu_g8e (dr_u1 (p := fun j => decide (h.toInt.toNat ≤ j)) (decide_eq_true (by omega))) (dr_u0 (p := fun j => decide (j ≤ h.toInt.toNat)) (decide_eq_false (by omega)))) rfl))
      · have h3' : (Int32.ofNat i).toInt < h.toInt := h3
        exact And.intro (by omega) (And.intro trivial (And.intro (pu_g8e (dr_u0 (p := fun j => decide (h.toInt.toNat ≤ j)) (decide_eq_false (by omega))) (dr_u1 (p := fun j => decide (j ≤ h.toInt.toNat)) (decide_eq_true (by omega)))) rfl))
      · have h2' : ¬ h.toInt < (Int32.ofNat i).toInt := h2
        have h3' : ¬ (Int32.ofNat i).toInt < h.toInt := h3
        exact And.intro (by omega) (And.intro trivial (And.intro (pu_g8e (dr_u1 (p := fun j => decide (h.toInt.toNat ≤ j)) (decide_eq_true (by omega))) (dr_u1 (p := fun j => decide (j ≤ h.toInt.toNat)) (decide_eq_true (by omega)))) rfl))

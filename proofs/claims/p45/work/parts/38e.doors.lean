/-! ===== doors of both classes ===== -/
def dr_k (a d h w : Int32) : Prop := 1 ≤ a.toInt ∧ a.toInt ≤ 60 ∧ 1 ≤ d.toInt ∧ d.toInt ≤ 12 ∧ d.toInt ≤ a.toInt ∧ 0 ≤ h.toInt ∧ h.toInt ≤ d.toInt ∧ 0 ≤ w.toInt ∧ w.toInt ≤ 1
theorem dr_okk {a d h w : Int32} : dr_ok a d h w = true ↔ dr_k a d h w := by
  unfold dr_ok dr_k
  simp only [Bool.and_eq_true, decide_eq_true_eq]
theorem dr_no {a d h w : Int32} (x : ¬ dr_k a d h w) : Value.int (Int32.ofInt (-1)) = .int (dr_D a d h w) := by
  unfold dr_D
  rw [if_neg (fun z => x (dr_okk.mp z))]
  rfl
theorem dr_D0 {a d h w : Int32} (x : dr_k a d h w) (hw : w.toInt = 0) : dr_D a d h w = dr_l (dr_b a d h) (a.toInt.toNat + 1) := by
  have e : w = 0 := Int32.toInt_inj.mp (hw.trans ai_z32.symm)
  unfold dr_D
  rw [if_pos (dr_okk.mpr x), if_pos e]
theorem dr_D1 {a d h w : Int32} (x : dr_k a d h w) (hw : ¬ w.toInt = 0) : dr_D a d h w = dr_m (dr_b a d h) (a.toInt.toNat + 1) := by
  have e : ¬ w = 0 := fun z => hw (by rw [z]; exact ai_z32)
  unfold dr_D
  rw [if_pos (dr_okk.mpr x), if_neg e]
theorem dr_m1 {p : Int32 → Bool} {i : Nat} (hp : p (Int32.ofNat i) = true) : dr_m p (i + 1) = Int32.ofNat i := if_pos hp
theorem dr_m0 {p : Int32 → Bool} {i : Nat} (hp : p (Int32.ofNat i) = false) : dr_m p (i + 1) = dr_m p i := if_neg (fun z => Bool.false_ne_true (hp.symm.trans z))
theorem dr_l0 {p : Int32 → Bool} {i : Nat} (hp : p (Int32.ofNat i) = false) : dr_l p (i + 1) = dr_l p i := if_neg (fun z => Bool.false_ne_true (hp.symm.trans z.1))
theorem dr_l1 {p : Int32 → Bool} {i : Nat} (hp : p (Int32.ofNat i) = true) (hl : dr_l p i = -1) : dr_l p (i + 1) = Int32.ofNat i := if_pos ⟨hp, hl⟩
theorem dr_l2 {p : Int32 → Bool} {i : Nat} (hl : ¬ dr_l p i = -1) : dr_l p (i + 1) = dr_l p i := if_neg (fun z => hl z.2)
theorem dr_ls {p : Int32 → Bool} {i : Nat} (hl : ¬ dr_l p i = -1) : ∀ k, dr_l p (i + k) = dr_l p i
  | 0 => rfl
  | k + 1 => (dr_l2 (i := i + k) (by rw [dr_ls hl k]; exact hl)).trans (dr_ls hl k)
theorem dr_nm {i : Nat} (h : i < 2147483648) : ¬ Int32.ofNat i = -1 := fun z => by
  have h1 := congrArg Int32.toInt z
  rw [pu_of h, pm1] at h1
  omega
/-- a first one stays the first -/
theorem dr_lf {p : Int32 → Bool} {i n : Nat} (hi : i < n) (hi' : i < 2147483648) (hp : p (Int32.ofNat i) = true) (hl : dr_l p i = -1) : dr_l p n = Int32.ofNat i := by
  have h1 := dr_l1 hp hl
  have e : n = i + 1 + (n - (i + 1)) := by omega
  rw [e, dr_ls (by rw [h1]; exact dr_nm hi'), h1]
def pu_g6 (a b c d e f g : Value) : pu_L := [(6, a), (5, b), (0, c), (1, d), (2, e), (3, f), (4, g)]
theorem pu_g6e {x x' : Int32} {i : Nat} {c d e f g : Value} (h1 : x = x') : pu_g6 (.int (Int32.ofNat i + Int32.ofInt 1)) (.int x) c d e f g = pu_g6 (.int (Int32.ofNat (i + 1))) (.int x') c d e f g := by rw [h1, pu_inc]
def pu_a5 (q : Nat) (a d h w : Int32) : pu_L := [(0, .ref q), (1, .int a), (2, .int d), (3, .int h), (4, .int w)]
def dr_I (a d h w : Int32) (i : Nat) : Prop := dr_k a d h w ∧ (w.toInt = 0 → dr_l (dr_b a d h) i = -1 ∧ dr_m (dr_b a d h) i = -1)
abbrev dr_g (q : Nat) (a d h w : Int32) (i : Nat) : pu_L := pu_g6 (.int (Int32.ofNat i)) (.int (dr_m (dr_b a d h) i)) (.ref q) (.int a) (.int d) (.int h) (.int w)
theorem dr_316a (q : Nat) (a d h w : Int32) : pu_wp (fun v => v = .int (dr_D a d h w)) 7 55 (pu_J True (dr_I a d h w 0) (dr_g q a d h w 0) 100) 316 60 (ai_B1 316 0) (pu_a5 q a d h w) [] := by
  refine And.intro (fun h1 => And.intro (pu_ri rfl) (dr_no (fun z => ?_))) (fun h1 => ?_)
  · have h1' : a.toInt < (Int32.ofInt 1).toInt := h1
    rw [pk1] at h1'
    unfold dr_k at z
    omega
  have h1' : ¬ a.toInt < (Int32.ofInt 1).toInt := h1
  rw [pk1] at h1'
  refine And.intro (fun h2 => And.intro (pu_ri rfl) (dr_no (fun z => ?_))) (fun h2 => ?_)
  · have h2' : (Int8.ofInt 60).toInt32.toInt < a.toInt := h2
    rw [pk60] at h2'
    unfold dr_k at z
    omega
  have h2' : ¬ (Int8.ofInt 60).toInt32.toInt < a.toInt := h2
  rw [pk60] at h2'
  refine And.intro (fun h3 => And.intro (pu_ri rfl) (dr_no (fun z => ?_))) (fun h3 => ?_)
  · have h3' : d.toInt < (Int32.ofInt 1).toInt := h3
    rw [pk1] at h3'
    unfold dr_k at z
    omega
  have h3' : ¬ d.toInt < (Int32.ofInt 1).toInt := h3
  rw [pk1] at h3'
  refine And.intro (fun h4 => And.intro (pu_ri rfl) (dr_no (fun z => ?_))) (fun h4 => ?_)
  · have h4' : (Int8.ofInt 12).toInt32.toInt < d.toInt := h4
    rw [pk12] at h4'
    unfold dr_k at z
    omega
  have h4' : ¬ (Int8.ofInt 12).toInt32.toInt < d.toInt := h4
  rw [pk12] at h4'
  refine And.intro (fun h5 => ?_) (fun h5 => And.intro (pu_ri rfl) (dr_no (fun z => by
    have h5' : ¬ ¬ a.toInt < d.toInt := h5
    unfold dr_k at z
    omega)))
  have h5' : ¬ a.toInt < d.toInt := h5
  refine And.intro (fun h6 => And.intro (pu_ri rfl) (dr_no (fun z => ?_))) (fun h6 => ?_)
  · have h6' : h.toInt < 0 := h6
    unfold dr_k at z
    omega
  have h6' : ¬ h.toInt < 0 := h6
  refine And.intro (fun h7 => And.intro (pu_ri rfl) (dr_no (fun z => ?_))) (fun h7 => ?_)
  · have h7' : d.toInt < h.toInt := h7
    unfold dr_k at z
    omega
  have h7' : ¬ d.toInt < h.toInt := h7
  refine And.intro rfl (Exists.intro _ (And.intro (pu_below w (Int32.ofInt 2)) ?_))
  refine And.intro (fun h8 => ?_) (fun h8 => And.intro (pu_ri rfl) (dr_no (fun z => ?_)))
  · have h8' := pu_bt h8
    rw [Bool.and_eq_true, decide_eq_true_eq, decide_eq_true_eq, pk2] at h8'
    have hk : dr_k a d h w := ⟨by omega, by omega, by omega, by omega, by omega, by omega, by omega, by omega, by omega⟩
    exact And.intro trivial (And.intro ⟨hk, fun _ => ⟨rfl, rfl⟩⟩ (And.intro rfl rfl))
  · have h8' : (pu_b (decide (0 ≤ w.toInt) && decide (w.toInt < (Int32.ofInt 2).toInt))).toInt = 0 := pu_nn h8
    have h9 := pu_b0.mp h8'
    unfold dr_k at z
    rw [decide_eq_true (by omega : 0 ≤ w.toInt), decide_eq_true (by rw [pk2]; omega : w.toInt < (Int32.ofInt 2).toInt)] at h9
    cases h9
theorem dr_316b (q : Nat) (a d h w : Int32) (i : Nat) (hi : i ≤ a.toInt.toNat + 1) (hv : dr_I a d h w i) : pu_wp (fun v => v = .int (dr_D a d h w)) 7 55 (pu_J (i < a.toInt.toNat + 1) (dr_I a d h w (i + 1)) (dr_g q a d h w (i + 1)) 100) 316 60 (ai_B1 316 55) (dr_g q a d h w i) [] := by
  obtain ⟨hk, hw⟩ := hv
  have hk' := hk
  unfold dr_k at hk'
  have hoi : (Int32.ofNat i).toInt = (i : Int) := pu_of (by omega)
  refine And.intro (fun h1 => ?_) (fun h1 => ?_)
  · have h1' : a.toInt < (Int32.ofNat i).toInt := h1
    have e : i = a.toInt.toNat + 1 := by omega
    refine And.intro (pu_ri rfl) ?_
    show Value.int (dr_m (dr_b a d h) i) = .int (dr_D a d h w)
    by_cases h0 : w.toInt = 0
    · rw [dr_D0 hk h0, ← e, (hw h0).1, (hw h0).2]
    · rw [dr_D1 hk h0, ← e]
  have h1' : ¬ a.toInt < (Int32.ofNat i).toInt := h1
  refine And.intro rfl (Exists.intro _ (And.intro (pu_could a d h (Int32.ofNat i) (by omega) (by omega) (by omega)) ?_))
  refine And.intro (fun h2 => ?_) (fun h2 => ?_)
  · have hp : dr_b a d h (Int32.ofNat i) = false := pu_b0.mp h2
    exact And.intro (by omega) (And.intro ⟨hk, fun h0 => ⟨(dr_l0 hp).trans (hw h0).1, (dr_m0 hp).trans (hw h0).2⟩⟩ (And.intro (pu_g6e (dr_m0 hp).symm) rfl))
  have hp : dr_b a d h (Int32.ofNat i) = true := pu_bt h2
  refine And.intro (fun h3 => ?_) (fun h3 => ?_)
  · have h3' : ¬ w.toInt = 0 := h3
    exact And.intro (by omega) (And.intro ⟨hk, fun h0 => absurd h0 h3'⟩ (And.intro (pu_g6e (dr_m1 hp).symm) rfl))
  · have h3' : w.toInt = 0 := pu_nn h3
    refine And.intro (pu_ri rfl) ?_
    show Value.int (Int32.ofNat i) = .int (dr_D a d h w)
    rw [dr_D0 hk h3', dr_lf (by omega) (by omega) hp (hw h3').1]
def pu_h7 (a b c d e f g k : Value) : pu_L := [(7, a), (6, b), (5, c), (0, d), (1, e), (2, f), (3, g), (4, k)]
theorem pu_h7e {x x' y y' : Int32} {i : Nat} {d e f g k : Value} (h1 : x = x') (h2 : y = y') : pu_h7 (.int (Int32.ofNat i + Int32.ofInt 1)) (.int x) (.int y) d e f g k = pu_h7 (.int (Int32.ofNat (i + 1))) (.int x') (.int y') d e f g k := by rw [h1, h2, pu_inc]
abbrev dr_h (q : Nat) (a d h w : Int32) (i : Nat) : pu_L := pu_h7 (.int (Int32.ofNat i)) (.int (dr_m (dr_b a d h) i)) (.int (dr_l (dr_b a d h) i)) (.ref q) (.int a) (.int d) (.int h) (.int w)
theorem dr_in {v lo hi : Int64} {b : Bool} (e : b = (decide (lo.toInt ≤ v.toInt) && decide (v.toInt ≤ hi.toInt))) : b = true ↔ lo.toInt ≤ v.toInt ∧ v.toInt ≤ hi.toInt := by
  rw [e, Bool.and_eq_true, decide_eq_true_eq, decide_eq_true_eq]
theorem dr_inT {v lo hi : Int64} (h : ¬ (pu_b (decide (lo.toInt ≤ v.toInt) && decide (v.toInt ≤ hi.toInt))).toInt = 0) : lo.toInt ≤ v.toInt ∧ v.toInt ≤ hi.toInt := (dr_in rfl).mp (pu_bt h)
theorem dr_inF {v lo hi : Int64} (h : (pu_b (decide (lo.toInt ≤ v.toInt) && decide (v.toInt ≤ hi.toInt))).toInt = 0) : ¬ (lo.toInt ≤ v.toInt ∧ v.toInt ≤ hi.toInt) := fun z => by
  have h1 := pu_b0.mp h
  rw [(dr_in rfl).mpr z] at h1
  cases h1
theorem dr_51a (q : Nat) (a d h w : Int32) : pu_wp (fun v => v = .int (dr_D a d h w)) 8 67 (pu_J True (dr_k a d h w) (dr_h q a d h w 0) 100) 51 60 ((ai_B1 51 0).drop 3) (pu_a5 q a d h w) [] := by
  have ea := Int32.toInt_toInt64 a
  have ed := Int32.toInt_toInt64 d
  have eh := Int32.toInt_toInt64 h
  have ew := Int32.toInt_toInt64 w
  refine And.intro rfl (Exists.intro _ (And.intro (pu_inn a.toInt64 (Int64.ofNat 1) (Int64.ofInt 60)) ?_))
  refine And.intro (fun h1 => And.intro (pu_ri rfl) (dr_no (fun z => ?_))) (fun h1 => ?_)
  · have h1' := dr_inF h1
    rw [pl1, pl60, ea] at h1'
    unfold dr_k at z
    omega
  have h1' := dr_inT h1
  rw [pl1, pl60, ea] at h1'
  refine And.intro rfl (Exists.intro _ (And.intro (pu_inn d.toInt64 (Int64.ofNat 1) (Int64.ofInt 12)) ?_))
  refine And.intro (fun h2 => And.intro (pu_ri rfl) (dr_no (fun z => ?_))) (fun h2 => ?_)
  · have h2' := dr_inF h2
    rw [pl1, pl12, ed] at h2'
    unfold dr_k at z
    omega
  have h2' := dr_inT h2
  rw [pl1, pl12, ed] at h2'
  refine And.intro (fun h3 => And.intro (pu_ri rfl) (dr_no (fun z => ?_))) (fun h3 => ?_)
  · have h3' : a.toInt < d.toInt := h3
    unfold dr_k at z
    omega
  have h3' : ¬ a.toInt < d.toInt := h3
  refine And.intro rfl (Exists.intro _ (And.intro (pu_inn h.toInt64 (Int64.ofNat 0) d.toInt64) ?_))
  refine And.intro (fun h4 => And.intro (pu_ri rfl) (dr_no (fun z => ?_))) (fun h4 => ?_)
  · have h4' := dr_inF h4
    rw [pl0, ed, eh] at h4'
    unfold dr_k at z
    omega
  have h4' := dr_inT h4
  rw [pl0, ed, eh] at h4'
  refine And.intro rfl (Exists.intro _ (And.intro (pu_inn w.toInt64 (Int64.ofNat 0) (Int64.ofNat 1)) ?_))
  refine And.intro (fun h5 => ?_) (fun h5 => And.intro (pu_ri rfl) (dr_no (fun z => ?_)))
  · have h5' := dr_inT h5
    rw [pl0, pl1, ew] at h5'
    have hk : dr_k a d h w := ⟨by omega, by omega, by omega, by omega, by omega, by omega, by omega, by omega, by omega⟩
    exact And.intro trivial (And.intro hk (And.intro rfl rfl))
  · have h5' := dr_inF (pu_nn h5)
    rw [pl0, pl1, ew] at h5'
    unfold dr_k at z
    omega
theorem dr_51b (q : Nat) (a d h w : Int32) (i : Nat) (hi : i ≤ a.toInt.toNat + 1) (hk : dr_k a d h w) : pu_wp (fun v => v = .int (dr_D a d h w)) 8 67 (pu_J (i < a.toInt.toNat + 1) (dr_k a d h w) (dr_h q a d h w (i + 1)) 100) 51 60 (ai_B1 51 67) (dr_h q a d h w i) [] := by
  have hk' := hk
  unfold dr_k at hk'
  have hoi : (Int32.ofNat i).toInt = (i : Int) := pu_of (by omega)
  refine And.intro (fun h1 => ?_) (fun h1 => ?_)
  · have h1' : a.toInt < (Int32.ofNat i).toInt := h1
    have e : i = a.toInt.toNat + 1 := by omega
    refine And.intro (fun h2 => And.intro (pu_ri rfl) ?_) (fun h2 => And.intro (pu_ri rfl) ?_)
    · have h2' : ¬ w.toInt = 0 := h2
      show Value.int (dr_m (dr_b a d h) i) = .int (dr_D a d h w)
      rw [dr_D1 hk h2', ← e]
    · have h2' : w.toInt = 0 := pu_nn h2
      show Value.int (dr_l (dr_b a d h) i) = .int (dr_D a d h w)
      rw [dr_D0 hk h2', ← e]
  have h1' : ¬ a.toInt < (Int32.ofNat i).toInt := h1
  refine And.intro rfl (Exists.intro _ (And.intro (pu_maybe a d h (Int32.ofNat i) (by omega) (by omega) (by omega) (by omega) (by omega) (by omega) (by omega)) ?_))
  refine And.intro (fun h2 => ?_) (fun h2 => ?_)
  · have hp : dr_b a d h (Int32.ofNat i) = false := pu_b0.mp h2
    exact And.intro (by omega) (And.intro hk (And.intro (pu_h7e (dr_m0 hp).symm (dr_l0 hp).symm) rfl))
  have hp : dr_b a d h (Int32.ofNat i) = true := pu_bt h2
  refine And.intro (fun h3 => ?_) (fun h3 => ?_)
  · have h3' : ¬ (dr_l (dr_b a d h) i).toInt = (Int32.ofInt (-1)).toInt := h3
    rw [pkm] at h3'
    exact And.intro (by omega) (And.intro hk (And.intro (pu_h7e (dr_m1 hp).symm (dr_l2 (fun z => h3' (by rw [z]; exact pm1))).symm) rfl))
  · have h3' : (dr_l (dr_b a d h) i).toInt = (Int32.ofInt (-1)).toInt := pu_nn h3
    rw [pkm] at h3'
    exact And.intro (by omega) (And.intro hk (And.intro (pu_h7e (dr_m1 hp).symm (dr_l1 hp (Int32.toInt_inj.mp (h3'.trans pm1.symm))).symm) rfl))

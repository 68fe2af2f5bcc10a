/-! ===== what the instructions do to numbers in bounds ===== -/
def ai_lI (z : Int) : ai_V := (0, 0, z, z)
def ai_lL (z : Int) : ai_V := (1, 0, z, z)
def ai_mI (l h : Int) : ai_V := bif decide (-2147483648 ≤ l) && decide (h ≤ 2147483647) then (0, 0, l, h) else ai_full
def ai_mL (l h : Int) : ai_V := bif decide (-9223372036854775808 ≤ l) && decide (h ≤ 9223372036854775807) then (1, 0, l, h) else ai_fulll
theorem ai_bm32 {z : Int} (h1 : -2147483648 ≤ z) (h2 : z ≤ 2147483647) : z.bmod 4294967296 = z := by
  unfold Int.bmod
  dsimp only
  split <;> omega
theorem ai_bm64 {z : Int} (h1 : -9223372036854775808 ≤ z) (h2 : z ≤ 9223372036854775807) : z.bmod 18446744073709551616 = z := by
  unfold Int.bmod
  dsimp only
  split <;> omega
section AIO
variable {ρ : ai_Rh} {sb : ai_SB} {ad : List Nat}
theorem ai_full_ok (x : Int32) : ai_mt ρ sb ad ai_full (.int x) := ⟨x, rfl, (ai_i32 x).1, (ai_i32 x).2⟩
theorem ai_fulll_ok (x : Int64) : ai_mt ρ sb ad ai_fulll (.long x) := ⟨x, rfl, (ai_i64 x).1, (ai_i64 x).2⟩
theorem ai_mI_ok {x : Int32} {z l h : Int} (hz : x.toInt = z.bmod 4294967296) (h1 : l ≤ z) (h2 : z ≤ h) : ai_mt ρ sb ad (ai_mI l h) (.int x) := by
  unfold ai_mI
  cases hc : (decide (-2147483648 ≤ l) && decide (h ≤ 2147483647)) with
  | false => exact ai_full_ok x
  | true =>
    simp only [Bool.and_eq_true, decide_eq_true_eq] at hc
    rw [ai_bm32 (by omega) (by omega)] at hz
    exact ⟨x, rfl, by omega, by omega⟩
theorem ai_mL_ok {x : Int64} {z l h : Int} (hz : x.toInt = z.bmod 18446744073709551616) (h1 : l ≤ z) (h2 : z ≤ h) : ai_mt ρ sb ad (ai_mL l h) (.long x) := by
  unfold ai_mL
  cases hc : (decide (-9223372036854775808 ≤ l) && decide (h ≤ 9223372036854775807)) with
  | false => exact ai_fulll_ok x
  | true =>
    simp only [Bool.and_eq_true, decide_eq_true_eq] at hc
    rw [ai_bm64 (by omega) (by omega)] at hz
    exact ⟨x, rfl, by omega, by omega⟩
theorem ai_lI_ok (x : Int32) : ai_mt ρ sb ad (ai_lI x.toInt) (.int x) := ⟨x, rfl, Int.le_refl _, Int.le_refl _⟩
theorem ai_lL_ok (x : Int64) : ai_mt ρ sb ad (ai_lL x.toInt) (.long x) := ⟨x, rfl, Int.le_refl _, Int.le_refl _⟩
end AIO
def ai_mn (a b : Int) : Int := bif decide (a ≤ b) then a else b
def ai_mx (a b : Int) : Int := bif decide (a ≤ b) then b else a
theorem ai_mn_le (a b : Int) : ai_mn a b ≤ a ∧ ai_mn a b ≤ b := by
  unfold ai_mn
  cases h : decide (a ≤ b) with
  | true => simp only [decide_eq_true_eq] at h; exact ⟨Int.le_refl _, h⟩
  | false => simp only [decide_eq_false_iff_not] at h; exact ⟨by simp only [cond_false]; omega, Int.le_refl _⟩
theorem ai_mx_le (a b : Int) : a ≤ ai_mx a b ∧ b ≤ ai_mx a b := by
  unfold ai_mx
  cases h : decide (a ≤ b) with
  | true => simp only [decide_eq_true_eq] at h; exact ⟨h, Int.le_refl _⟩
  | false => simp only [decide_eq_false_iff_not] at h; exact ⟨Int.le_refl _, by simp only [cond_false]; omega⟩
def ai_mulB (A B : Int × Int) : Int × Int := (ai_mn (ai_mn (A.1 * B.1) (A.1 * B.2)) (ai_mn (A.2 * B.1) (A.2 * B.2)), ai_mx (ai_mx (A.1 * B.1) (A.1 * B.2)) (ai_mx (A.2 * B.1) (A.2 * B.2)))
theorem ai_mul1 {x y l h : Int} (h1 : l ≤ y) (h2 : y ≤ h) : (x * l ≤ x * y ∧ x * y ≤ x * h) ∨ (x * h ≤ x * y ∧ x * y ≤ x * l) := by
  rcases Int.le_total 0 x with hx | hx
  · exact Or.inl ⟨Int.mul_le_mul_of_nonneg_left h1 hx, Int.mul_le_mul_of_nonneg_left h2 hx⟩
  · exact Or.inr ⟨Int.mul_le_mul_of_nonpos_left hx h2, Int.mul_le_mul_of_nonpos_left hx h1⟩
theorem ai_mulB_ok {x y : Int} {A B : Int × Int} (hA : A.1 ≤ x ∧ x ≤ A.2) (hB : B.1 ≤ y ∧ y ≤ B.2) : (ai_mulB A B).1 ≤ x * y ∧ x * y ≤ (ai_mulB A B).2 := by
  have e1 := ai_mul1 (x := x) hB.1 hB.2
  have e2 := ai_mul1 (x := B.1) hA.1 hA.2
  have e3 := ai_mul1 (x := B.2) hA.1 hA.2
  rw [Int.mul_comm B.1, Int.mul_comm B.1, Int.mul_comm B.1] at e2
  rw [Int.mul_comm B.2, Int.mul_comm B.2, Int.mul_comm B.2] at e3
  have m1 := ai_mn_le (A.1 * B.1) (A.1 * B.2)
  have m2 := ai_mn_le (A.2 * B.1) (A.2 * B.2)
  have m3 := ai_mn_le (ai_mn (A.1 * B.1) (A.1 * B.2)) (ai_mn (A.2 * B.1) (A.2 * B.2))
  have n1 := ai_mx_le (A.1 * B.1) (A.1 * B.2)
  have n2 := ai_mx_le (A.2 * B.1) (A.2 * B.2)
  have n3 := ai_mx_le (ai_mx (A.1 * B.1) (A.1 * B.2)) (ai_mx (A.2 * B.1) (A.2 * B.2))
  unfold ai_mulB
  constructor <;> (dsimp only; omega)
/-- two numbers known whole: the instruction itself says -/
def ai_l2 (f : Int32 → Int32 → Int32) (A B : Int × Int) (d : ai_V) : ai_V := bif decide (A.1 = A.2) && decide (B.1 = B.2) then ai_lI (f (Int32.ofInt A.1) (Int32.ofInt B.1)).toInt else d
def ai_ll2 (f : Int64 → Int64 → Int64) (A B : Int × Int) : ai_V := bif decide (A.1 = A.2) && decide (B.1 = B.2) then ai_lL (f (Int64.ofInt A.1) (Int64.ofInt B.1)).toInt else ai_fulll
section AIP
variable {ρ : ai_Rh} {sb : ai_SB} {ad : List Nat}
theorem ai_l2_ok {f : Int32 → Int32 → Int32} {A B : Int × Int} {d : ai_V} {x y : Int32} (hA : A.1 ≤ x.toInt ∧ x.toInt ≤ A.2) (hB : B.1 ≤ y.toInt ∧ y.toInt ≤ B.2) (hd : ai_mt ρ sb ad d (.int (f x y))) : ai_mt ρ sb ad (ai_l2 f A B d) (.int (f x y)) := by
  unfold ai_l2
  cases hc : (decide (A.1 = A.2) && decide (B.1 = B.2)) with
  | false => exact hd
  | true =>
    simp only [Bool.and_eq_true, decide_eq_true_eq] at hc
    have e1 : Int32.ofInt A.1 = x := by rw [show A.1 = x.toInt by omega]; exact Int32.ofInt_toInt x
    have e2 : Int32.ofInt B.1 = y := by rw [show B.1 = y.toInt by omega]; exact Int32.ofInt_toInt y
    rw [e1, e2]
    exact ai_lI_ok _
theorem ai_ll2_ok {f : Int64 → Int64 → Int64} {A B : Int × Int} {x y : Int64} (hA : A.1 ≤ x.toInt ∧ x.toInt ≤ A.2) (hB : B.1 ≤ y.toInt ∧ y.toInt ≤ B.2) : ai_mt ρ sb ad (ai_ll2 f A B) (.long (f x y)) := by
  unfold ai_ll2
  cases hc : (decide (A.1 = A.2) && decide (B.1 = B.2)) with
  | false => exact ai_fulll_ok _
  | true =>
    simp only [Bool.and_eq_true, decide_eq_true_eq] at hc
    have e1 : Int64.ofInt A.1 = x := by rw [show A.1 = x.toInt by omega]; exact Int64.ofInt_toInt x
    have e2 : Int64.ofInt B.1 = y := by rw [show B.1 = y.toInt by omega]; exact Int64.ofInt_toInt y
    rw [e1, e2]
    exact ai_lL_ok _
end AIP
/-- the low byte of a token of the script shifted down, as a token of its own (only where the script has 7 numbers) -/
def ai_bt (L t : Nat) (s : Int) : Option Nat := bif L == 7 && (decide (t ≤ 6) && (decide (s = 0) || decide (s = 8) || decide (s = 16) || decide (s = 24))) then some (7 + 4 * t + s.toNat / 8) else none
def ai_rb (L : Nat) (ρ : ai_Rh) : Prop := L = 7 → ∀ (t : Nat) (s u : Nat) (x y : Int32), t ≤ 6 → ρ t = some x.toInt → (s = 0 ∨ s = 8 ∨ s = 16 ∨ s = 24) → y.toInt = s → u = 7 + 4 * t + s / 8 → ρ u = some ((x >>> (y &&& 31)) &&& 255).toInt ∧ ρ u = some (((x.toUInt32 >>> (y.toUInt32 &&& Int32.toUInt32 31)).toInt32) &&& 255).toInt ∧ t < 35 ∧ u < 35
def ai_rbg (L : Nat) (G : ai_G) : Prop := L = 7 → 35 ≤ G.length
theorem ai_rb.up {L : Nat} {ρ σ : ai_Rh} {G : ai_G} (hG : ai_gok ρ G) (hl : ai_rbg L G) (hr : ai_le ρ σ) (h : ai_rb L ρ) : ai_rb L σ := by
  intro hL t s u x y ht hx hs hy hu
  have hd : ∃ z, ρ t = some z := by
    have hlt : t < G.length := by have := hl hL; omega
    obtain ⟨z, hz, -⟩ := hG.at (List.getElem?_eq_getElem hlt)
    exact ⟨z, hz⟩
  obtain ⟨z, hz⟩ := hd
  have e := hr _ _ hz
  rw [hx] at e
  cases e
  obtain ⟨h1, h2, h3⟩ := h hL t s u x y ht hz hs hy hu
  exact ⟨hr _ _ h1, hr _ _ h2, h3⟩
/-- the bounds of an and, where one side isn't below 0 -/
def ai_andB (A B : Int × Int) : ai_V := bif decide (0 ≤ B.1) then (0, 0, 0, B.2) else bif decide (0 ≤ A.1) then (0, 0, 0, A.2) else ai_full
theorem ai_and_le {x y : Int32} (h : 0 ≤ y.toInt) : 0 ≤ (x &&& y).toInt ∧ (x &&& y).toInt ≤ y.toInt := by
  have e1 : (x &&& y).toInt = (x.toBitVec &&& y.toBitVec).toInt := rfl
  have e2 : y.toInt = y.toBitVec.toInt := rfl
  rw [e2] at h ⊢
  rw [e1]
  have hy : y.toBitVec.toNat < 2147483648 := by
    rw [BitVec.toInt_eq_toNat_cond] at h
    have := y.toBitVec.isLt
    split at h <;> omega
  have hl : (x.toBitVec &&& y.toBitVec).toNat ≤ y.toBitVec.toNat := by
    rw [BitVec.toNat_and]
    exact Nat.and_le_right
  rw [BitVec.toInt_eq_toNat_cond, BitVec.toInt_eq_toNat_cond]
  rw [if_pos (by omega), if_pos (by omega)]
  constructor <;> omega
theorem ai_andB_ok {ρ : ai_Rh} {sb : ai_SB} {ad : List Nat} {A B : Int × Int} {x y : Int32} (hA : A.1 ≤ x.toInt ∧ x.toInt ≤ A.2) (hB : B.1 ≤ y.toInt ∧ y.toInt ≤ B.2) : ai_mt ρ sb ad (ai_andB A B) (.int (x &&& y)) := by
  unfold ai_andB
  cases h1 : decide (0 ≤ B.1) with
  | true =>
    simp only [decide_eq_true_eq] at h1
    have := ai_and_le (x := x) (y := y) (by omega)
    exact ⟨_, rfl, this.1, by omega⟩
  | false =>
    cases h2 : decide (0 ≤ A.1) with
    | true =>
      simp only [decide_eq_true_eq] at h2
      have := ai_and_le (x := y) (y := x) (by omega)
      rw [show y &&& x = x &&& y from Int32.and_comm y x] at this
      exact ⟨_, rfl, this.1, by omega⟩
    | false => exact ai_full_ok _
/-- the bounds of an or, an xor of two numbers that aren't below 0: all bits of both -/
def ai_bits (n : Int) : Int := bif decide (n ≤ 127) then 127 else bif decide (n ≤ 65535) then 65535 else 2147483647
def ai_orB (A B : Int × Int) : ai_V := bif decide (0 ≤ A.1) && decide (0 ≤ B.1) then (0, 0, 0, ai_bits (ai_mx A.2 B.2)) else ai_full
/-- a shift to the left that stays in bounds -/
def ai_shB (A B : Int × Int) : ai_V := bif decide (0 ≤ A.1) && (decide (0 ≤ B.1) && (decide (B.2 ≤ 30) && decide (A.2 * 2 ^ B.2.toNat ≤ 2147483647))) then (0, 0, A.1 * 2 ^ B.1.toNat, A.2 * 2 ^ B.2.toNat) else ai_full
theorem ai_s31 : ∀ n, n < 32 → ((Int32.ofNat n &&& 31).toBitVec.smod 32).toNat = n := by decide +kernel
theorem ai_shl_eq {x y : Int32} (hx : 0 ≤ x.toInt) (hy : 0 ≤ y.toInt) (hy2 : y.toInt ≤ 30) (h : x.toInt * 2 ^ y.toInt.toNat ≤ 2147483647) : (x <<< (y &&& 31)).toInt = x.toInt * 2 ^ y.toInt.toNat := by
  have ey : y = Int32.ofNat y.toInt.toNat := Int32.toInt_inj.mp (by rw [Int32.toInt_ofNat_small (by omega)]; omega)
  have hn : y.toInt.toNat < 32 := by omega
  generalize y.toInt.toNat = n at ey hn h ⊢
  subst ey
  have e1 : (x <<< (Int32.ofNat n &&& 31)).toInt = (x.toBitVec <<< n).toInt := by
    show (x <<< (Int32.ofNat n &&& 31)).toBitVec.toInt = _
    rw [Int32.toBitVec_shiftLeft]
    show (x.toBitVec <<< ((Int32.ofNat n &&& 31).toBitVec.smod 32).toNat).toInt = _
    rw [ai_s31 n hn]
  have e2 : x.toInt = x.toBitVec.toInt := rfl
  have hl := x.toBitVec.isLt
  have e3 : x.toInt = (x.toBitVec.toNat : Int) := by
    rw [e2, BitVec.toInt_eq_toNat_cond] at hx ⊢
    split at hx
    · rename_i h9; rw [if_pos h9]
    · omega
  rw [e1, e3]
  rw [e3] at h
  have h' : x.toBitVec.toNat * 2 ^ n ≤ 2147483647 := by
    have e4 : ((x.toBitVec.toNat * 2 ^ n : Nat) : Int) = (x.toBitVec.toNat : Int) * 2 ^ n := by rw [Int.natCast_mul, Int.natCast_pow]; rfl
    omega
  have e5 : (x.toBitVec <<< n).toNat = x.toBitVec.toNat * 2 ^ n := by
    rw [BitVec.toNat_shiftLeft, Nat.shiftLeft_eq, Nat.mod_eq_of_lt (by omega)]
  rw [BitVec.toInt_eq_toNat_cond, e5, if_pos (by omega), Int.natCast_mul, Int.natCast_pow]
  rfl
theorem ai_shB_ok {ρ : ai_Rh} {sb : ai_SB} {ad : List Nat} {A B : Int × Int} {x y : Int32} (hA : A.1 ≤ x.toInt ∧ x.toInt ≤ A.2) (hB : B.1 ≤ y.toInt ∧ y.toInt ≤ B.2) : ai_mt ρ sb ad (ai_shB A B) (.int (x <<< (y &&& 31))) := by
  unfold ai_shB
  cases h1 : (decide (0 ≤ A.1) && (decide (0 ≤ B.1) && (decide (B.2 ≤ 30) && decide (A.2 * 2 ^ B.2.toNat ≤ 2147483647)))) with
  | false => exact ai_full_ok _
  | true =>
    simp only [Bool.and_eq_true, decide_eq_true_eq] at h1
    obtain ⟨a0, b0, b1, a1⟩ := h1
    have pw : ∀ {i j : Nat}, i ≤ j → (2 : Int) ^ i ≤ 2 ^ j := fun {i j} hij => by
      have := Nat.pow_le_pow_right (n := 2) (by decide) hij
      have e1 : ((2 ^ i : Nat) : Int) = 2 ^ i := by rw [Int.natCast_pow]; rfl
      have e2 : ((2 ^ j : Nat) : Int) = 2 ^ j := by rw [Int.natCast_pow]; rfl
      omega
    have p0 : ∀ i : Nat, (0 : Int) ≤ 2 ^ i := fun i => Int.pow_nonneg (by decide)
    have up : x.toInt * 2 ^ y.toInt.toNat ≤ A.2 * 2 ^ B.2.toNat := Int.mul_le_mul hA.2 (pw (by omega)) (p0 _) (by omega)
    have lo : A.1 * 2 ^ B.1.toNat ≤ x.toInt * 2 ^ y.toInt.toNat := Int.mul_le_mul hA.1 (pw (by omega)) (p0 _) (by omega)
    have e := ai_shl_eq (x := x) (y := y) (by omega) (by omega) (by omega) (by omega)
    exact ⟨_, rfl, by rw [e]; exact lo, by rw [e]; exact up⟩
/-- comparisons: 0 =, 1 not =, 2 <, 3 not <, 4 >, 5 not > -/
def ai_cP (op : Nat) (x y : Int) : Prop := match op with
  | 0 => x = y
  | 1 => ¬ x = y
  | 2 => x < y
  | 3 => ¬ x < y
  | 4 => y < x
  | _ => ¬ y < x
def ai_ng (op : Nat) : Nat := match op with
  | 0 => 1
  | 1 => 0
  | 2 => 3
  | 3 => 2
  | 4 => 5
  | _ => 4
theorem ai_ng_ok {op : Nat} {x y : Int} : ai_cP (ai_ng op) x y ↔ ¬ ai_cP op x y := by
  match op with
  | 0 => exact Iff.rfl
  | 1 => simp only [ai_ng, ai_cP]; omega
  | 2 => exact Iff.rfl
  | 3 => simp only [ai_ng, ai_cP]; omega
  | 4 => exact Iff.rfl
  | n + 5 => simp only [ai_ng, ai_cP]; omega
def ai_dlt (A B : Int × Int) : Option Bool := bif decide (A.2 < B.1) then some true else bif decide (B.2 ≤ A.1) then some false else none
def ai_deq (A B : Int × Int) : Option Bool := bif decide (A.1 = A.2) && (decide (B.1 = B.2) && decide (A.1 = B.1)) then some true else bif decide (A.2 < B.1) || decide (B.2 < A.1) then some false else none
def ai_dec (op : Nat) (A B : Int × Int) : Option Bool := match op with
  | 0 => ai_deq A B
  | 1 => (ai_deq A B).map not
  | 2 => ai_dlt A B
  | 3 => (ai_dlt A B).map not
  | 4 => ai_dlt B A
  | _ => (ai_dlt B A).map not
theorem ai_dlt_ok {A B : Int × Int} {x y : Int} {r : Bool} (hA : A.1 ≤ x ∧ x ≤ A.2) (hB : B.1 ≤ y ∧ y ≤ B.2) (h : ai_dlt A B = some r) : x < y ↔ r = true := by
  unfold ai_dlt at h
  cases h1 : decide (A.2 < B.1) with
  | true => rw [h1] at h; simp only [decide_eq_true_eq] at h1; cases h; simp; omega
  | false =>
    rw [h1] at h
    cases h2 : decide (B.2 ≤ A.1) with
    | true => rw [h2] at h; simp only [decide_eq_true_eq] at h2; cases h; simp; omega
    | false => rw [h2] at h; cases h
theorem ai_deq_ok {A B : Int × Int} {x y : Int} {r : Bool} (hA : A.1 ≤ x ∧ x ≤ A.2) (hB : B.1 ≤ y ∧ y ≤ B.2) (h : ai_deq A B = some r) : x = y ↔ r = true := by
  unfold ai_deq at h
  cases h1 : (decide (A.1 = A.2) && (decide (B.1 = B.2) && decide (A.1 = B.1))) with
  | true => rw [h1] at h; simp only [Bool.and_eq_true, decide_eq_true_eq] at h1; cases h; simp; omega
  | false =>
    rw [h1] at h
    cases h2 : (decide (A.2 < B.1) || decide (B.2 < A.1)) with
    | true => rw [h2] at h; simp only [Bool.or_eq_true, decide_eq_true_eq] at h2; cases h; simp; omega
    | false => rw [h2] at h; cases h
theorem ai_dec_ok {op : Nat} {A B : Int × Int} {x y : Int} {r : Bool} (hA : A.1 ≤ x ∧ x ≤ A.2) (hB : B.1 ≤ y ∧ y ≤ B.2) (h : ai_dec op A B = some r) : ai_cP op x y ↔ r = true := by
  have nn : ∀ {o : Option Bool} {P : Prop}, (∀ r, o = some r → (P ↔ r = true)) → o.map not = some r → (¬ P ↔ r = true) := by
    intro o P h1 h2
    cases o with
    | none => cases h2
    | some b =>
      have := h1 b rfl
      cases h2
      rw [this]
      cases b <;> simp
  match op with
  | 0 => exact ai_deq_ok hA hB h
  | 1 => exact nn (fun r => ai_deq_ok hA hB) h
  | 2 => exact ai_dlt_ok hA hB h
  | 3 => exact nn (fun r => ai_dlt_ok hA hB) h
  | 4 => exact ai_dlt_ok hB hA h
  | n + 5 => exact nn (fun r => ai_dlt_ok hB hA) h
/-- what a comparison that holds says of the left side's bounds -/
def ai_rf (op : Nat) (A B : Int × Int) : Int × Int := match op with
  | 0 => (ai_mx A.1 B.1, ai_mn A.2 B.2)
  | 1 => bif decide (B.1 = B.2) then (bif decide (A.1 = B.1) then (A.1 + 1, A.2) else bif decide (A.2 = B.1) then (A.1, A.2 - 1) else A) else A
  | 2 => (A.1, ai_mn A.2 (B.2 - 1))
  | 3 => (ai_mx A.1 B.1, A.2)
  | 4 => (ai_mx A.1 (B.1 + 1), A.2)
  | _ => (A.1, ai_mn A.2 B.2)
def ai_fl (op : Nat) : Nat := match op with
  | 0 => 0
  | 1 => 1
  | 2 => 4
  | 3 => 5
  | 4 => 2
  | _ => 3
theorem ai_fl_ok {op : Nat} {x y : Int} : ai_cP (ai_fl op) y x ↔ ai_cP op x y := by
  match op with
  | 0 => simp only [ai_fl, ai_cP]; omega
  | 1 => simp only [ai_fl, ai_cP]; omega
  | 2 => exact Iff.rfl
  | 3 => exact Iff.rfl
  | 4 => exact Iff.rfl
  | n + 5 => exact Iff.rfl
theorem ai_mn_ge {a b z : Int} (h1 : z ≤ a) (h2 : z ≤ b) : z ≤ ai_mn a b := by
  unfold ai_mn
  cases decide (a ≤ b) <;> assumption
theorem ai_mx_ge {a b z : Int} (h1 : a ≤ z) (h2 : b ≤ z) : ai_mx a b ≤ z := by
  unfold ai_mx
  cases decide (a ≤ b) <;> assumption
theorem ai_rf_ok {op : Nat} {A B : Int × Int} {x y : Int} (hA : A.1 ≤ x ∧ x ≤ A.2) (hB : B.1 ≤ y ∧ y ≤ B.2) (h : ai_cP op x y) : (ai_rf op A B).1 ≤ x ∧ x ≤ (ai_rf op A B).2 := by
  match op, h with
  | 0, h => simp only [ai_cP] at h; exact ⟨ai_mx_ge hA.1 (by omega), ai_mn_ge hA.2 (by omega)⟩
  | 1, h =>
    simp only [ai_cP] at h
    simp only [ai_rf]
    cases h1 : decide (B.1 = B.2) with
    | false => exact hA
    | true =>
      simp only [decide_eq_true_eq] at h1
      cases h2 : decide (A.1 = B.1) with
      | true => simp only [decide_eq_true_eq] at h2; exact ⟨by simp only [cond_true]; omega, hA.2⟩
      | false =>
        cases h3 : decide (A.2 = B.1) with
        | true => simp only [decide_eq_true_eq] at h3; exact ⟨hA.1, by simp only [cond_true, cond_false]; omega⟩
        | false => exact hA
  | 2, h => simp only [ai_cP] at h; exact ⟨hA.1, ai_mn_ge hA.2 (by omega)⟩
  | 3, h => simp only [ai_cP] at h; exact ⟨ai_mx_ge hA.1 (by omega), hA.2⟩
  | 4, h => simp only [ai_cP] at h; exact ⟨ai_mx_ge hA.1 (by omega), hA.2⟩
  | n + 5, h => simp only [ai_cP] at h; exact ⟨hA.1, ai_mn_ge hA.2 (by omega)⟩
def ai_tok (a : ai_V) : Bool := (a.1 == 2 || a.1 == 3) && decide (a.2.2.2 = 1)
def ai_gs (G : ai_G) (a : ai_V) (q : Int × Int) : ai_G := bif ai_tok a then (match G[a.2.1]? with
  | some r => G.set a.2.1 (q.1 - a.2.2.1, q.2 - a.2.2.1, r.2.2)
  | none => G) else G
def ai_ref2 (G : ai_G) (op : Nat) (a b : ai_V) : ai_G := ai_gs (ai_gs G a (ai_rf op (ai_b G a) (ai_b G b))) b (ai_rf (ai_fl op) (ai_b G b) (ai_b G a))
/-- the number that a held value of a number is -/
def ai_nm (ρ : ai_Rh) (a : ai_V) (x : Int) : Prop := (a.1 = 2 ∨ a.1 = 3) → ∃ z, ρ a.2.1 = some z ∧ x = a.2.2.2 * z + a.2.2.1
theorem ai_gs_ok {ρ : ai_Rh} {G : ai_G} {a : ai_V} {q : Int × Int} {z : Int} (hG : ai_gok ρ G) (hz : ai_nm ρ a z) (h1 : q.1 ≤ z) (h2 : z ≤ q.2) : ai_gok ρ (ai_gs G a q) := by
  unfold ai_gs
  cases ht : ai_tok a with
  | false => exact hG
  | true =>
    simp only [cond_true]
    cases hr : G[a.2.1]? with
    | none => exact hG
    | some r =>
      dsimp only
      unfold ai_tok at ht
      simp only [Bool.and_eq_true, Bool.or_eq_true, beq_iff_eq, decide_eq_true_eq] at ht
      obtain ⟨w, hw, e⟩ := hz ht.1
      obtain ⟨w', hw', -, -, hk⟩ := hG.at hr
      cases hw.symm.trans hw'
      rw [ht.2, Int.one_mul] at e
      intro t
      by_cases et : a.2.1 = t
      · subst et
        rw [List.getElem?_set_self (List.getElem?_eq_some_iff.mp hr).1]
        exact ⟨w, hw, by dsimp only; omega, by dsimp only; omega, hk⟩
      · rw [List.getElem?_set_ne et]
        exact hG t
theorem ai_gs_len (G : ai_G) (a : ai_V) (q : Int × Int) : (ai_gs G a q).length = G.length := by
  unfold ai_gs
  cases ai_tok a with
  | false => rfl
  | true =>
    simp only [cond_true]
    cases G[a.2.1]? with
    | none => rfl
    | some r => exact List.length_set
theorem ai_ref2_len (G : ai_G) (op : Nat) (a b : ai_V) : (ai_ref2 G op a b).length = G.length := by
  unfold ai_ref2
  rw [ai_gs_len, ai_gs_len]
theorem ai_ref2_ok {ρ : ai_Rh} {G : ai_G} {op : Nat} {a b : ai_V} {x y : Int} (hG : ai_gok ρ G) (hx : ai_nm ρ a x) (hy : ai_nm ρ b y) (hA : (ai_b G a).1 ≤ x ∧ x ≤ (ai_b G a).2) (hB : (ai_b G b).1 ≤ y ∧ y ≤ (ai_b G b).2) (h : ai_cP op x y) : ai_gok ρ (ai_ref2 G op a b) := by
  have r1 := ai_rf_ok hA hB h
  have r2 := ai_rf_ok hB hA (ai_fl_ok.mpr h)
  exact ai_gs_ok (ai_gs_ok hG hx r1.1 r1.2) hy r2.1 r2.2
theorem ai_int' {ρ : ai_Rh} {sb : ai_SB} {ad : List Nat} {G : ai_G} {a : ai_V} {v : Value} (hG : ai_gok ρ G) (h : ai_mt ρ sb ad a v) (hi : ai_isI a = true) : ∃ x : Int32, v = .int x ∧ ((ai_b G a).1 ≤ x.toInt ∧ x.toInt ≤ (ai_b G a).2) ∧ ai_nm ρ a x.toInt := by
  obtain ⟨x, e1, e2, e3⟩ := ai_int hG h hi
  refine ⟨x, e1, ⟨e2, e3⟩, fun ht => ?_⟩
  obtain ⟨n, t, l, u⟩ := a
  dsimp only at ht
  rcases ht with rfl | rfl
  · obtain ⟨y, z, f1, f2, f3⟩ := h
    cases e1.symm.trans f1
    exact ⟨z, f2, f3⟩
  · simp [ai_isI] at hi
theorem ai_lng' {ρ : ai_Rh} {sb : ai_SB} {ad : List Nat} {G : ai_G} {a : ai_V} {v : Value} (hG : ai_gok ρ G) (h : ai_mt ρ sb ad a v) (hi : ai_isL a = true) : ∃ x : Int64, v = .long x ∧ ((ai_b G a).1 ≤ x.toInt ∧ x.toInt ≤ (ai_b G a).2) ∧ ai_nm ρ a x.toInt := by
  obtain ⟨x, e1, e2, e3⟩ := ai_lng hG h hi
  refine ⟨x, e1, ⟨e2, e3⟩, fun ht => ?_⟩
  obtain ⟨n, t, l, u⟩ := a
  dsimp only at ht
  rcases ht with rfl | rfl
  · simp [ai_isL] at hi
  · obtain ⟨y, z, f1, f2, f3⟩ := h
    cases e1.symm.trans f1
    exact ⟨z, f2, f3⟩
/-- a token's number and a number known whole, where the sum (the product) is in bounds -/
def ai_adA (tg : Nat) (lo hi : Int) (G : ai_G) (a : ai_V) (z : Int) : Option ai_V := bif a.1 == tg && (decide (lo ≤ (ai_b G a).1 + z) && decide ((ai_b G a).2 + z ≤ hi)) then some (tg, a.2.1, a.2.2.1 + z, a.2.2.2) else none
def ai_muA (tg : Nat) (lo hi : Int) (G : ai_G) (a : ai_V) (z : Int) : Option ai_V := bif a.1 == tg && (decide (lo ≤ (ai_mulB (ai_b G a) (z, z)).1) && decide ((ai_mulB (ai_b G a) (z, z)).2 ≤ hi)) then some (tg, a.2.1, a.2.2.1 * z, a.2.2.2 * z) else none
def ai_wh (G : ai_G) (b : ai_V) : Option Int := bif decide ((ai_b G b).1 = (ai_b G b).2) then some (ai_b G b).1 else none
/-- a number up to a token's, and a number known whole -/
def ai_ad8 (G : ai_G) (a : ai_V) (z : Int) : Option ai_V := bif a.1 == 8 && (decide (-2147483648 ≤ (ai_b G a).1 + z) && decide ((ai_b G a).2 + z ≤ 2147483647)) then some (8, a.2.1, a.2.2.1 + z, a.2.2.2 + z) else none
def ai_or (a : Option ai_V) (b : ai_V) : ai_V := match a with
  | some v => v
  | none => b
/-- division and its rest, of what isn't below 0 by what is above 0 -/
def ai_divB (A B : Int × Int) (d : Int × Int) : Int × Int := bif decide (0 ≤ A.1) && decide (0 < B.1) then (0, A.2 / B.1) else d
def ai_remB (A B : Int × Int) (d : Int × Int) : Int × Int := bif decide (0 ≤ A.1) && decide (0 < B.1) then (0, ai_mn A.2 (B.2 - 1)) else d
/-- two ints: what an instruction makes of them; none: it isn't known to go through -/
def ai_i2 (L : Nat) (ins : Instr) (G : ai_G) (a b : ai_V) : Option ai_V := match ins with
  | .iadd => some (ai_or ((ai_wh G b).bind fun z => ai_adA 2 (-2147483648) 2147483647 G a z) (ai_or ((ai_wh G a).bind fun z => ai_adA 2 (-2147483648) 2147483647 G b z) (ai_or ((ai_wh G b).bind fun z => ai_ad8 G a z) (ai_mI ((ai_b G a).1 + (ai_b G b).1) ((ai_b G a).2 + (ai_b G b).2)))))
  | .isub => some (ai_or ((ai_wh G b).bind fun z => ai_adA 2 (-2147483648) 2147483647 G a (-z)) (ai_mI ((ai_b G a).1 - (ai_b G b).2) ((ai_b G a).2 - (ai_b G b).1)))
  | .imul => some (ai_or ((ai_wh G b).bind fun z => ai_muA 2 (-2147483648) 2147483647 G a z) (ai_or ((ai_wh G a).bind fun z => ai_muA 2 (-2147483648) 2147483647 G b z) (ai_mI (ai_mulB (ai_b G a) (ai_b G b)).1 (ai_mulB (ai_b G a) (ai_b G b)).2)))
  | .iand => bif a.1 == 6 && (b.1 == 0 && (decide (b.2.2.1 = 255) && decide (b.2.2.2 = 255))) then some (2, a.2.1, 0, 1) else bif a.1 == 2 && (decide (a.2.2.2 = 1) && (decide (0 ≤ (ai_b G a).1) && !(decide ((ai_b G b).1 = (ai_b G b).2)))) then some (8, a.2.1, 0, a.2.2.1) else some (ai_l2 (fun x y => x &&& y) (ai_b G a) (ai_b G b) (ai_andB (ai_b G a) (ai_b G b)))
  | .ior => some (ai_l2 (fun x y => x ||| y) (ai_b G a) (ai_b G b) (ai_orB (ai_b G a) (ai_b G b)))
  | .ixor => some (ai_l2 (fun x y => x ^^^ y) (ai_b G a) (ai_b G b) (ai_orB (ai_b G a) (ai_b G b)))
  | .ishl => some (ai_l2 (fun x y => x <<< (y &&& 31)) (ai_b G a) (ai_b G b) (ai_shB (ai_b G a) (ai_b G b)))
  | .ishr => match bif a.1 == 2 && (decide (a.2.2.1 = 0) && (decide (a.2.2.2 = 1) && (b.1 == 0 && decide (b.2.2.1 = b.2.2.2)))) then ai_bt L a.2.1 b.2.2.1 else none with
    | some u => some (6, u, 0, 0)
    | none => some (ai_l2 (fun x y => x >>> (y &&& 31)) (ai_b G a) (ai_b G b) ai_full)
  | .iushr => match bif a.1 == 2 && (decide (a.2.2.1 = 0) && (decide (a.2.2.2 = 1) && (b.1 == 0 && decide (b.2.2.1 = b.2.2.2)))) then ai_bt L a.2.1 b.2.2.1 else none with
    | some u => some (6, u, 0, 0)
    | none => some (ai_l2 (fun x y => (x.toUInt32 >>> (y.toUInt32 &&& Int32.toUInt32 31)).toInt32) (ai_b G a) (ai_b G b) ai_full)
  | .idiv => bif decide (0 < (ai_b G b).1) || decide ((ai_b G b).2 < 0) then some (ai_l2 (fun x y => x / y) (ai_b G a) (ai_b G b) (0, 0, (ai_divB (ai_b G a) (ai_b G b) (-2147483648, 2147483647)).1, (ai_divB (ai_b G a) (ai_b G b) (-2147483648, 2147483647)).2)) else none
  | .irem => bif decide (0 < (ai_b G b).1) || decide ((ai_b G b).2 < 0) then some (ai_l2 (fun x y => x - x / y * y) (ai_b G a) (ai_b G b) (0, 0, (ai_remB (ai_b G a) (ai_b G b) (-2147483648, 2147483647)).1, (ai_remB (ai_b G a) (ai_b G b) (-2147483648, 2147483647)).2)) else none
  | _ => none
def ai_l2l (ins : Instr) (G : ai_G) (a b : ai_V) : Option ai_V := match ins with
  | .ladd => some (ai_or ((ai_wh G b).bind fun z => ai_adA 3 (-9223372036854775808) 9223372036854775807 G a z) (ai_or ((ai_wh G a).bind fun z => ai_adA 3 (-9223372036854775808) 9223372036854775807 G b z) (ai_mL ((ai_b G a).1 + (ai_b G b).1) ((ai_b G a).2 + (ai_b G b).2))))
  | .lsub => some (ai_or ((ai_wh G b).bind fun z => ai_adA 3 (-9223372036854775808) 9223372036854775807 G a (-z)) (ai_mL ((ai_b G a).1 - (ai_b G b).2) ((ai_b G a).2 - (ai_b G b).1)))
  | .lmul => some (ai_mL (ai_mulB (ai_b G a) (ai_b G b)).1 (ai_mulB (ai_b G a) (ai_b G b)).2)
  | .ldiv => bif decide (0 < (ai_b G b).1) || decide ((ai_b G b).2 < 0) then some (ai_ll2 (fun x y => x / y) (ai_b G a) (ai_b G b)) else none
  | .lrem => bif decide (0 < (ai_b G b).1) || decide ((ai_b G b).2 < 0) then some (ai_ll2 (fun x y => x - x / y * y) (ai_b G a) (ai_b G b)) else none
  | _ => none

/-! ===== the readers of both sides, from tables that are the same ===== -/
/-- the class's table of boxes, of handings, of counts is the row's -/
def tb_b (S : hs_S) (R : Nat → Int) : Prop := S.1 1027 = R 4 ∧ (0 ≤ R 4 ∧ R 4 ≤ 40) ∧ ∀ i j : Nat, (i : Int) < R 4 → j < 2 → S.2 17 (2 * i + j) = R (2448 + 2 * i + j)
def tb_h (S : hs_S) (R : Nat → Int) : Prop := S.1 1155 = R 5 ∧ (0 ≤ R 5 ∧ R 5 ≤ 200) ∧ (∀ i j : Nat, (i : Int) < R 5 → j < 5 → S.2 19 (5 * i + j) = R (2528 + 5 * i + j)) ∧ ∀ i : Nat, (i : Int) < R 5 → 0 ≤ R (2528 + 5 * i)
def tb_c (S : hs_S) (R : Nat → Int) : Prop := S.1 1411 = R 6 ∧ (0 ≤ R 6 ∧ R 6 ≤ 200) ∧ (∀ i j : Nat, (i : Int) < R 6 → j < 5 → S.2 23 (5 * i + j) = R (4008 + 5 * i + j)) ∧ ∀ i : Nat, (i : Int) < R 6 → 0 ≤ R (4008 + 5 * i) ∧ R (4008 + 5 * i) < R 4
theorem tb_ub {S : hs_S} {R : Nat → Int} (h : tb_b S R) {i j : Int} (hi : 0 ≤ i ∧ i < R 4) (hj : 0 ≤ j ∧ j < 2) : ug S 16 2 i j = r_b R i j := by
  obtain ⟨h1, -, h3⟩ := h
  have e : ug S 16 2 i j = S.2 17 (i * 2 + j).toNat := if_pos ⟨hi.1, by show i < S.1 1027; omega, hj.1, hj.2⟩
  rw [e]
  unfold r_b
  have := h3 i.toNat j.toNat (by omega) (by omega)
  rw [show (i * 2 + j).toNat = 2 * i.toNat + j.toNat by omega, this]
  congr 1 <;> omega
theorem tb_uh {S : hs_S} {R : Nat → Int} (h : tb_h S R) {i j : Int} (hi : 0 ≤ i ∧ i < R 5) (hj : 0 ≤ j ∧ j < 5) : ug S 18 5 i j = r_h R i j := by
  obtain ⟨h1, -, h3, -⟩ := h
  have e : ug S 18 5 i j = S.2 19 (i * 5 + j).toNat := if_pos ⟨hi.1, by show i < S.1 1155; omega, hj.1, hj.2⟩
  rw [e]
  unfold r_h
  have := h3 i.toNat j.toNat (by omega) (by omega)
  rw [show (i * 5 + j).toNat = 5 * i.toNat + j.toNat by omega, this]
  congr 1 <;> omega
theorem tb_uc {S : hs_S} {R : Nat → Int} (h : tb_c S R) {i j : Int} (hi : 0 ≤ i ∧ i < R 6) (hj : 0 ≤ j ∧ j < 5) : ug S 22 5 i j = r_c R i j := by
  obtain ⟨h1, -, h3, -⟩ := h
  have e : ug S 22 5 i j = S.2 23 (i * 5 + j).toNat := if_pos ⟨hi.1, by show i < S.1 1411; omega, hj.1, hj.2⟩
  rw [e]
  unfold r_c
  have := h3 i.toNat j.toNat (by omega) (by omega)
  rw [show (i * 5 + j).toNat = 5 * i.toNat + j.toNat by omega, this]
  congr 1 <;> omega
theorem ug_m {S : hs_S} {k : Nat} {w j : Int} : ug S k w (-1) j = -1 := if_neg (by omega)
theorem tb_of {S : hs_S} {R : Nat → Int} (h : tb_h S R) {b k i : Int} (hi : 0 ≤ i ∧ i < R 5) : u_of S b k i ↔ r_of R b k i := by
  unfold u_of r_of
  rw [tb_uh h hi ⟨by decide, by decide⟩, tb_uh h hi ⟨by decide, by decide⟩]
theorem tb_ia {S : hs_S} {R : Nat → Int} (h : tb_h S R) {i j : Int} (hi : 0 ≤ i ∧ i < R 5) (hj : 0 ≤ j ∧ j < R 5) : u_ia S i j ↔ r_ia R i j := by
  unfold u_ia r_ia
  rw [tb_uh h hi ⟨by decide, by decide⟩, tb_uh h hj ⟨by decide, by decide⟩]
theorem lh_b {S : hs_S} {b d k : Int} : ∀ i : Nat, -1 ≤ lh S b d k i ∧ lh S b d k i < i
  | 0 => ⟨Int.le_refl _, (by decide : (-1 : Int) < ((0 : Nat) : Int))⟩
  | i + 1 => by
    have := lh_b (S := S) (b := b) (d := d) (k := k) i
    rw [lh_s]
    split <;> omega
/-- held -/
theorem tb_hd {S : hs_S} {R : Nat → Int} (h : tb_h S R) {b d k : Int} : ∀ i : Nat, (i : Int) ≤ R 5 → r_hd R b d k i = (ug S 18 5 (lh S b d k i) 2, ug S 18 5 (lh S b d k i) 1)
  | 0, _ => by
    show ((-1 : Int), (-1 : Int)) = (ug S 18 5 (-1) 2, ug S 18 5 (-1) 1)
    rw [ug_m, ug_m]
  | i + 1, hi => by
    have ih := tb_hd h (b := b) (d := d) (k := k) i (by omega)
    have hi' : 0 ≤ (i : Int) ∧ (i : Int) < R 5 := by omega
    have e1 := tb_uh h hi' (j := 1) ⟨by decide, by decide⟩
    have e2 := tb_uh h hi' (j := 2) ⟨by decide, by decide⟩
    have eo := tb_of h hi' (b := b) (k := k)
    rw [r_hd_s, lh_s, ih]
    by_cases c : u_of S b k i ∧ ug S 18 5 i 2 ≤ d ∧ ug S 18 5 (lh S b d k i) 2 ≤ ug S 18 5 i 2
    · rw [if_pos c, if_pos ⟨eo.mp c.1, by rw [← e2]; exact c.2.1, by rw [← e2]; exact c.2.2⟩, e1, e2]
    · rw [if_neg c, if_neg (fun q => c ⟨eo.mpr q.1, by rw [e2]; exact q.2.1, by rw [e2]; exact q.2.2⟩)]
/-- broken: the first -/
theorem tb_fb {S : hs_S} {R : Nat → Int} (h : tb_h S R) (hb : tb_b S R) {b k : Int} (hbx : 0 ≤ b ∧ b < R 4) : ∀ i : Nat, (i : Int) ≤ R 5 → fb S b k i = r_fb R b k i
  | 0, _ => rfl
  | i + 1, hi => by
    have ih := tb_fb h hb hbx (k := k) i (by omega)
    have hi' : 0 ≤ (i : Int) ∧ (i : Int) < R 5 := by omega
    have e2 := tb_uh h hi' (j := 2) ⟨by decide, by decide⟩
    have e3 := tb_uh h hi' (j := 3) ⟨by decide, by decide⟩
    have eo := tb_of h hi' (b := b) (k := k)
    have eb := tb_ub hb hbx (j := 1) ⟨by decide, by decide⟩
    have bd := r_fb_b (R := R) (b := b) (k := k) i
    rw [fb_s, r_fb_s, ih]
    have ev : ¬ r_fb R b k i = -1 → ug S 18 5 (r_fb R b k i) 2 = r_h R (r_fb R b k i) 2 := fun q => tb_uh h (by omega) ⟨by decide, by decide⟩
    by_cases c : (r_of R b k i ∧ ¬ r_h R i 3 = r_b R b 1) ∧ (r_fb R b k i = -1 ∨ r_h R i 2 < r_h R (r_fb R b k i) 2)
    · rw [if_pos c]
      refine if_pos ⟨eo.mpr c.1.1, ?_, ?_⟩
      · unfold u_os
        rw [(eo.mpr c.1.1).1, eb, e3]
        exact c.1.2
      · by_cases q : r_fb R b k i = -1
        · exact Or.inl q
        · rw [ev q, e2]
          exact c.2
    · rw [if_neg c]
      refine if_neg (fun g => c ⟨⟨eo.mp g.1, ?_⟩, ?_⟩)
      · have g2 := g.2.1
        unfold u_os at g2
        rw [g.1.1, eb, e3] at g2
        exact g2
      · by_cases q : r_fb R b k i = -1
        · exact Or.inl q
        · have g3 := g.2.2
          rw [ev q, e2] at g3
          exact g3
/-- broken: the one ahead -/
theorem tb_ah {S : hs_S} {R : Nat → Int} (h : tb_h S R) {t k : Int} (ht : 0 ≤ t ∧ t < R 5) : ∀ i : Nat, (i : Int) ≤ R 5 → ah S t k i = r_ah R t k i
  | 0, _ => rfl
  | i + 1, hi => by
    have ih := tb_ah h ht (k := k) i (by omega)
    have hi' : 0 ≤ (i : Int) ∧ (i : Int) < R 5 := by omega
    have e2 := tb_uh h hi' (j := 2) ⟨by decide, by decide⟩
    have e0 := tb_uh h ht (j := 0) ⟨by decide, by decide⟩
    have eo := tb_of h hi' (b := r_h R t 0) (k := k)
    have ea := tb_ia h hi' ht
    have bd := r_ah_b (R := R) (t := t) (k := k) i
    rw [ah_s, r_ah_s, ih, e0]
    have ev : ¬ r_ah R t k i = -1 → (u_ia S (r_ah R t k i) i ↔ r_h R (r_ah R t k i) 2 ≤ r_h R i 2) := fun q => by
      have e4 := tb_uh h (i := r_ah R t k i) (j := 2) (by omega) ⟨by decide, by decide⟩
      unfold u_ia
      rw [e4, e2]
      omega
    by_cases c : (r_of R (r_h R t 0) k i ∧ r_ia R i t) ∧ (r_ah R t k i = -1 ∨ r_h R (r_ah R t k i) 2 ≤ r_h R i 2)
    · rw [if_pos c]
      refine if_pos ⟨eo.mpr c.1.1, ea.mpr c.1.2, ?_⟩
      by_cases q : r_ah R t k i = -1
      · exact Or.inl q
      · exact Or.inr ((ev q).mpr (c.2.resolve_left q))
    · rw [if_neg c]
      refine if_neg (fun g => c ⟨⟨eo.mp g.1, ea.mp g.2.1⟩, ?_⟩)
      by_cases q : r_ah R t k i = -1
      · exact Or.inl q
      · exact Or.inr ((ev q).mp (g.2.2.resolve_left q))
/-- broken: none ahead of none -/
theorem tb_am {S : hs_S} {R : Nat → Int} (h : tb_h S R) {k : Int} : ∀ i : Nat, (i : Int) ≤ R 5 → ah S (-1) k i = -1
  | 0, _ => rfl
  | i + 1, hi => by
    have ih := tb_am h (k := k) i (by omega)
    have hi' : 0 ≤ (i : Int) ∧ (i : Int) < R 5 := by omega
    rw [ah_s, ih]
    refine if_neg (fun g => ?_)
    have g1 := g.1.1
    rw [ug_m, tb_uh h hi' ⟨by decide, by decide⟩] at g1
    have g2 := h.2.2.2 i hi'.2
    unfold r_h at g1
    rw [show (2528 + 5 * (i : Int) + 0).toNat = 2528 + 5 * i by omega] at g1
    omega
theorem tb_bt {S : hs_S} {R : Nat → Int} (h : tb_c S R) (hb : tb_b S R) {i : Nat} (hi : (i : Int) < R 6) : u_bt S i = r_bt R i := by
  have e0 := tb_uc h (i := i) (j := 0) (by omega) ⟨by decide, by decide⟩
  have g := h.2.2.2 i hi
  have e1 : r_c R i 0 = R (4008 + 5 * i) := by
    unfold r_c
    congr 1 <;> omega
  unfold u_bt r_bt
  rw [e0]
  exact tb_ub hb (by rw [e1]; exact g) ⟨by decide, by decide⟩
theorem tb_tf {S : hs_S} {R : Nat → Int} (h : tb_c S R) (hb : tb_b S R) {b : Int} : ∀ i : Nat, (i : Int) ≤ R 6 → tf S b i = r_tf R b i
  | 0, _ => rfl
  | i + 1, hi => by rw [tf_s, r_tf_s, tb_tf h hb i (by omega), tb_bt h hb (by omega)]
theorem tb_su {S : hs_S} {R : Nat → Int} (h : tb_c S R) (hb : tb_b S R) {b w : Int} : ∀ i : Nat, (i : Int) ≤ R 6 → su S b w i = r_su R b w i
  | 0, _ => rfl
  | i + 1, hi => by rw [su_s, r_su_s, tb_su h hb i (by omega), tb_tf h hb i (by omega), tb_bt h hb (by omega), tb_uc h (i := i) (j := 3) (by omega) ⟨by decide, by decide⟩]

/-! ===== the reference's readers, and seal, by hand (by wip/gen/mkhr2.py) ===== -/
def r_h (R : Nat → Int) (i j : Int) : Int := R (2528 + 5 * i + j).toNat
def r_c (R : Nat → Int) (i j : Int) : Int := R (4008 + 5 * i + j).toNat
def r_b (R : Nat → Int) (i j : Int) : Int := R (2448 + 2 * i + j).toNat
abbrev r_of (R : Nat → Int) (b k i : Int) : Prop := r_h R i 0 = b ∧ r_h R i 4 ≤ k
/-- held: the best day and its hand -/
def r_hd (R : Nat → Int) (b d k : Int) : Nat → Int × Int
  | 0 => (-1, -1)
  | i + 1 => if r_of R b k i ∧ r_h R i 2 ≤ d ∧ (r_hd R b d k i).1 ≤ r_h R i 2 then (r_h R i 2, r_h R i 1) else r_hd R b d k i
def r_fb (R : Nat → Int) (b k : Int) : Nat → Int
  | 0 => -1
  | i + 1 => if (r_of R b k i ∧ ¬ r_h R i 3 = r_b R b 1) ∧ (r_fb R b k i = -1 ∨ r_h R i 2 < r_h R (r_fb R b k i) 2) then i else r_fb R b k i
abbrev r_ia (R : Nat → Int) (i j : Int) : Prop := r_h R i 2 < r_h R j 2 ∨ (r_h R i 2 = r_h R j 2 ∧ i < j)
def r_ah (R : Nat → Int) (t k : Int) : Nat → Int
  | 0 => -1
  | i + 1 => if (r_of R (r_h R t 0) k i ∧ r_ia R i t) ∧ (r_ah R t k i = -1 ∨ r_h R (r_ah R t k i) 2 ≤ r_h R i 2) then i else r_ah R t k i
def r_bt (R : Nat → Int) (i : Int) : Int := r_b R (r_c R i 0) 0
def r_tf (R : Nat → Int) (b : Int) : Nat → Int
  | 0 => 0
  | i + 1 => if r_bt R i = b then r_tf R b i + 1 else r_tf R b i
def r_su (R : Nat → Int) (b w : Int) : Nat → Int
  | 0 => 0
  | i + 1 => if r_bt R i = b then r_su R b w i + r_c R i 3 * (if w = 0 then 1 else r_tf R b i + 1) else r_su R b w i
theorem r_hd_s {R : Nat → Int} {b d k : Int} {i : Nat} : r_hd R b d k (i + 1) = if r_of R b k i ∧ r_h R i 2 ≤ d ∧ (r_hd R b d k i).1 ≤ r_h R i 2 then (r_h R i 2, r_h R i 1) else r_hd R b d k i := rfl
theorem r_fb_s {R : Nat → Int} {b k : Int} {i : Nat} : r_fb R b k (i + 1) = if (r_of R b k i ∧ ¬ r_h R i 3 = r_b R b 1) ∧ (r_fb R b k i = -1 ∨ r_h R i 2 < r_h R (r_fb R b k i) 2) then (i : Int) else r_fb R b k i := rfl
theorem r_ah_s {R : Nat → Int} {t k : Int} {i : Nat} : r_ah R t k (i + 1) = if (r_of R (r_h R t 0) k i ∧ r_ia R i t) ∧ (r_ah R t k i = -1 ∨ r_h R (r_ah R t k i) 2 ≤ r_h R i 2) then (i : Int) else r_ah R t k i := rfl
theorem r_tf_s {R : Nat → Int} {b : Int} {i : Nat} : r_tf R b (i + 1) = if r_bt R i = b then r_tf R b i + 1 else r_tf R b i := rfl
theorem r_su_s {R : Nat → Int} {b w : Int} {i : Nat} : r_su R b w (i + 1) = if r_bt R i = b then r_su R b w i + r_c R i 3 * (if w = 0 then 1 else r_tf R b i + 1) else r_su R b w i := rfl
theorem r_fb_b {R : Nat → Int} {b k : Int} : ∀ i : Nat, -1 ≤ r_fb R b k i ∧ r_fb R b k i < i
  | 0 => ⟨Int.le_refl _, (by decide : (-1 : Int) < ((0 : Nat) : Int))⟩
  | i + 1 => by
    have := r_fb_b (R := R) (b := b) (k := k) i
    rw [r_fb_s]
    split <;> omega
theorem r_ah_b {R : Nat → Int} {t k : Int} : ∀ i : Nat, -1 ≤ r_ah R t k i ∧ r_ah R t k i < i
  | 0 => ⟨Int.le_refl _, (by decide : (-1 : Int) < ((0 : Nat) : Int))⟩
  | i + 1 => by
    have := r_ah_b (R := R) (t := t) (k := k) i
    rw [r_ah_s]
    split <;> omega
theorem r_tf_b {R : Nat → Int} {b : Int} : ∀ i : Nat, 0 ≤ r_tf R b i ∧ r_tf R b i ≤ i
  | 0 => ⟨Int.le_refl _, Int.le_refl _⟩
  | i + 1 => by
    have := r_tf_b (R := R) (b := b) i
    rw [r_tf_s]
    split <;> omega
theorem r_su_b {R : Nat → Int} {b w : Int} {m : Nat} (h : ∀ i : Nat, i < m → -1 ≤ r_c R i 3 ∧ r_c R i 3 ≤ 16383) (hm : m ≤ 200) : ∀ i : Nat, i ≤ m → -200 * (i : Int) ≤ r_su R b w i ∧ r_su R b w i ≤ 3276600 * (i : Int)
  | 0, _ => ⟨by show -200 * ((0 : Nat) : Int) ≤ 0; omega, by show (0 : Int) ≤ 3276600 * ((0 : Nat) : Int); omega⟩
  | i + 1, hi => by
    have h1 := r_su_b (b := b) (w := w) h hm i (by omega)
    have h2 := r_tf_b (R := R) (b := b) i
    have h3 := h i (by omega)
    rw [r_su_s]
    split
    · have h4 : -200 ≤ r_c R i 3 * (if w = 0 then 1 else r_tf R b i + 1) ∧ r_c R i 3 * (if w = 0 then 1 else r_tf R b i + 1) ≤ 3276600 := by
        have h5 : 1 ≤ (if w = 0 then 1 else r_tf R b i + 1) ∧ (if w = 0 then 1 else r_tf R b i + 1) ≤ 200 := by
          split <;> omega
        exact su_m h3 h5
      omega
    · omega
def t_held : hs_T := fun as S post => match as with
  | [(4, z), (0, b), (0, d), (0, k)] => z = 0 ∧ (0 ≤ S.2 1 4 ∧ S.2 1 4 ≤ 40) ∧ (0 ≤ S.2 1 5 ∧ S.2 1 5 ≤ 200) ∧ (¬ ((0 ≤ b ∧ b < S.2 1 4) ∧ (0 ≤ d ∧ d ≤ 399) ∧ 0 ≤ k ∧ k ≤ 399) → post [(0, -1)] (hs_up S.1 0 0, S.2)) ∧ ((0 ≤ b ∧ b < S.2 1 4) ∧ (0 ≤ d ∧ d ≤ 399) ∧ 0 ≤ k ∧ k ≤ 399 → post [(0, (r_hd (S.2 1) b d k (S.2 1 5).toNat).2)] (hs_up S.1 0 0, S.2))
  | _ => False
section Z24
theorem c_held : hs_C hs_sh 67 t_held := by
  refine hs_met (nL := 8) (n0 := 120) (n := 160) [] [38] e_r (by decide +kernel) rfl rfl ?_
  intro as S post h
  unfold t_held at h
  split at h
  · rename_i z b d k9
    obtain ⟨rfl, h4, h5, q1, q2⟩ := h
    refine ⟨Nat.le_of_ble_eq_true rfl, fun hh k g st S' => st = [] ∧ S' = (hs_up S.1 0 0, S.2) ∧ ((0 ≤ b ∧ b < S.2 1 4) ∧ (0 ≤ d ∧ d ≤ 399) ∧ 0 ≤ k9 ∧ k9 ≤ 399) ∧ ∃ (i : Nat) (x y : Int), g = [(0, (4, 0)), (1, (0, b)), (2, (0, d)), (3, (0, k9)), (4, (0, y)), (5, (0, x)), (6, (0, (i : Int)))] ∧ (x, y) = r_hd (S.2 1) b d k9 i ∧ (i : Int) ≤ S.2 1 5 ∧ S.2 1 5 - i ≤ (k : Int), ?_, ?_⟩
    · refine And.intro rfl (And.intro h4 (And.intro (fun a0 b0 => ce1 ?_) (fun a0 => ce0 ?_)))
      rotate_left
      · exact q1 (fun q => a0 q.1)
      refine And.intro (fun a1 b1 => ce1 ?_) (fun a1 => ce0 ?_)
      rotate_left
      · exact q1 (fun q => a1 q.2.1)
      refine And.intro (fun a2 b2 => cn1 ?_) (fun a2 => cn0 ?_)
      rotate_left
      · exact q1 (fun q => a2 q.2.2)
      exact Exists.intro 1000 (Exists.intro [(0, (4, 0)), (1, (0, b)), (2, (0, d)), (3, (0, k9)), (4, (0, -1)), (5, (0, -1)), (6, (0, ((0 : Nat) : Int)))] (And.intro (And.intro rfl (And.intro rfl (And.intro rfl (And.intro rfl (And.intro rfl (And.intro rfl (And.intro rfl trivial))))))) (And.intro rfl (And.intro rfl (And.intro ⟨⟨a0, b0⟩, ⟨a1, b1⟩, a2, b2⟩ (Exists.intro 0 (Exists.intro (-1) (Exists.intro (-1) (And.intro rfl (And.intro rfl (And.intro (by omega) (by omega)))))))))))) 
    · intro hh hm
      simp only [List.mem_cons, List.not_mem_nil, or_false] at hm
      subst hm
      intro k g st S' hI
      obtain ⟨rfl, rfl, hok, i, x, y, rfl, hv, hi, hk⟩ := hI
      refine And.intro ⟨by decide, by decide⟩ (And.intro (fun g1 => ?_) (fun g1 => ?_))
      · have g1 : S.2 1 5 ≤ (i : Int) := g1
        have e : (S.2 1 5).toNat = i := by omega
        have q := q2 hok
        rw [e, ← hv] at q
        exact q
      have g1 : ¬ S.2 1 5 ≤ (i : Int) := g1
      have bi : -2147483648 ≤ (i : Int) + 1 ∧ (i : Int) + 1 ≤ 2147483647 := by omega
      have e0 : r_h (S.2 1) i 0 = S.2 1 (2528 + 5 * (i : Int)).toNat := by
        unfold r_h
        rw [Int.add_zero]
      refine And.intro (by show -2147483648 ≤ 5 * (i : Int) ∧ 5 * (i : Int) ≤ 2147483647; omega) (And.intro (by show -2147483648 ≤ 2528 + 5 * (i : Int) ∧ 2528 + 5 * (i : Int) ≤ 2147483647; omega) (And.intro (by show 0 ≤ 2528 + 5 * (i : Int) ∧ 2528 + 5 * (i : Int) < (23016 : Nat); omega) (And.intro (fun c0 => ?_) (fun c0 => And.intro (by show -2147483648 ≤ 2528 + 5 * (i : Int) + 4 ∧ 2528 + 5 * (i : Int) + 4 ≤ 2147483647; omega) (And.intro (by show 0 ≤ 2528 + 5 * (i : Int) + 4 ∧ 2528 + 5 * (i : Int) + 4 < (23016 : Nat); omega) (And.intro (fun c1 => ?_) (fun c1 => And.intro (by show -2147483648 ≤ 2528 + 5 * (i : Int) + 2 ∧ 2528 + 5 * (i : Int) + 2 ≤ 2147483647; omega) (And.intro (by show 0 ≤ 2528 + 5 * (i : Int) + 2 ∧ 2528 + 5 * (i : Int) + 2 < (23016 : Nat); omega) (And.intro (fun c2 => ?_) (fun c2 => And.intro (by show -2147483648 ≤ 2528 + 5 * (i : Int) + 2 ∧ 2528 + 5 * (i : Int) + 2 ≤ 2147483647; omega) (And.intro (by show 0 ≤ 2528 + 5 * (i : Int) + 2 ∧ 2528 + 5 * (i : Int) + 2 < (23016 : Nat); omega) (And.intro (fun c3 => ?_) (fun c3 => And.intro (by show -2147483648 ≤ 2528 + 5 * (i : Int) + 2 ∧ 2528 + 5 * (i : Int) + 2 ≤ 2147483647; omega) (And.intro (by show 0 ≤ 2528 + 5 * (i : Int) + 2 ∧ 2528 + 5 * (i : Int) + 2 < (23016 : Nat); omega) (And.intro (by show -2147483648 ≤ 2528 + 5 * (i : Int) + 1 ∧ 2528 + 5 * (i : Int) + 1 ≤ 2147483647; omega) (And.intro (by show 0 ≤ 2528 + 5 * (i : Int) + 1 ∧ 2528 + 5 * (i : Int) + 1 < (23016 : Nat); omega) ?_))))))))))))))))
      · have c0 : ¬ S.2 1 (2528 + 5 * (i : Int)).toNat = b := c0
        have ev : (x, y) = r_hd (S.2 1) b d k9 (i + 1) := by
          rw [r_hd_s, ← hv]
          split
          · rename_i q
            exfalso
            exact c0 (e0.symm.trans q.1.1)
          · rfl
        exact And.intro bi (Exists.intro (k - 1) (And.intro (by omega) (Exists.intro [(0, (4, 0)), (1, (0, b)), (2, (0, d)), (3, (0, k9)), (4, (0, y)), (5, (0, x)), (6, (0, ((i + 1 : Nat) : Int)))] (And.intro (And.intro rfl (And.intro rfl (And.intro rfl (And.intro rfl (And.intro rfl (And.intro rfl (And.intro rfl trivial))))))) (And.intro rfl (And.intro rfl (And.intro hok (Exists.intro (i + 1) (Exists.intro (x) (Exists.intro (y) (And.intro rfl (And.intro ev (And.intro (by omega) (by omega))))))))))))))
      · have c1 : k9 < r_h (S.2 1) i 4 := c1
        have ev : (x, y) = r_hd (S.2 1) b d k9 (i + 1) := by
          rw [r_hd_s, ← hv]
          split
          · rename_i q
            exfalso
            have := q.1.2; omega
          · rfl
        exact And.intro bi (Exists.intro (k - 1) (And.intro (by omega) (Exists.intro [(0, (4, 0)), (1, (0, b)), (2, (0, d)), (3, (0, k9)), (4, (0, y)), (5, (0, x)), (6, (0, ((i + 1 : Nat) : Int)))] (And.intro (And.intro rfl (And.intro rfl (And.intro rfl (And.intro rfl (And.intro rfl (And.intro rfl (And.intro rfl trivial))))))) (And.intro rfl (And.intro rfl (And.intro hok (Exists.intro (i + 1) (Exists.intro (x) (Exists.intro (y) (And.intro rfl (And.intro ev (And.intro (by omega) (by omega))))))))))))))
      · have c2 : d < r_h (S.2 1) i 2 := c2
        have ev : (x, y) = r_hd (S.2 1) b d k9 (i + 1) := by
          rw [r_hd_s, ← hv]
          split
          · rename_i q
            exfalso
            have := q.2.1; omega
          · rfl
        exact And.intro bi (Exists.intro (k - 1) (And.intro (by omega) (Exists.intro [(0, (4, 0)), (1, (0, b)), (2, (0, d)), (3, (0, k9)), (4, (0, y)), (5, (0, x)), (6, (0, ((i + 1 : Nat) : Int)))] (And.intro (And.intro rfl (And.intro rfl (And.intro rfl (And.intro rfl (And.intro rfl (And.intro rfl (And.intro rfl trivial))))))) (And.intro rfl (And.intro rfl (And.intro hok (Exists.intro (i + 1) (Exists.intro (x) (Exists.intro (y) (And.intro rfl (And.intro ev (And.intro (by omega) (by omega))))))))))))))
      · have c3 : r_h (S.2 1) i 2 < x := c3
        have ev : (x, y) = r_hd (S.2 1) b d k9 (i + 1) := by
          rw [r_hd_s, ← hv]
          split
          · rename_i q
            exfalso
            have q3 : x ≤ r_h (S.2 1) i 2 := q.2.2; omega
          · rfl
        exact And.intro bi (Exists.intro (k - 1) (And.intro (by omega) (Exists.intro [(0, (4, 0)), (1, (0, b)), (2, (0, d)), (3, (0, k9)), (4, (0, y)), (5, (0, x)), (6, (0, ((i + 1 : Nat) : Int)))] (And.intro (And.intro rfl (And.intro rfl (And.intro rfl (And.intro rfl (And.intro rfl (And.intro rfl (And.intro rfl trivial))))))) (And.intro rfl (And.intro rfl (And.intro hok (Exists.intro (i + 1) (Exists.intro (x) (Exists.intro (y) (And.intro rfl (And.intro ev (And.intro (by omega) (by omega))))))))))))))
      · have c0 : S.2 1 (2528 + 5 * (i : Int)).toNat = b := c0
        have c1 : ¬ k9 < r_h (S.2 1) i 4 := c1
        have c2 : ¬ d < r_h (S.2 1) i 2 := c2
        have c3 : ¬ r_h (S.2 1) i 2 < x := c3
        have ev : (r_h (S.2 1) i 2, r_h (S.2 1) i 1) = r_hd (S.2 1) b d k9 (i + 1) := by
          rw [r_hd_s, ← hv]
          split
          · rfl
          · rename_i q
            exact (q ⟨⟨e0.trans c0, by omega⟩, by omega, by show x ≤ r_h (S.2 1) i 2; omega⟩).elim
        exact And.intro bi (Exists.intro (k - 1) (And.intro (by omega) (Exists.intro [(0, (4, 0)), (1, (0, b)), (2, (0, d)), (3, (0, k9)), (4, (0, r_h (S.2 1) i 1)), (5, (0, r_h (S.2 1) i 2)), (6, (0, ((i + 1 : Nat) : Int)))] (And.intro (And.intro rfl (And.intro rfl (And.intro rfl (And.intro rfl (And.intro rfl (And.intro rfl (And.intro rfl trivial))))))) (And.intro rfl (And.intro rfl (And.intro hok (Exists.intro (i + 1) (Exists.intro (r_h (S.2 1) i 2) (Exists.intro (r_h (S.2 1) i 1) (And.intro rfl (And.intro ev (And.intro (by omega) (by omega))))))))))))))
  · cases h
end Z24

/-! ===== the reference: leading ===== -/
/-- eight to the power -/
def p8 : Nat → Int
  | 0 => 1
  | n + 1 => 8 * p8 n
theorem p8_1 : ∀ n, 1 ≤ p8 n
  | 0 => by decide
  | n + 1 => by
    have := p8_1 n
    show 1 ≤ 8 * p8 n
    omega
def nu (f : Nat → Int) : Nat → Int
  | 0 => 0
  | n + 1 => nu f n + f n * p8 (7 - n)
theorem nu_congr {f g : Nat → Int} : ∀ {n : Nat}, (∀ i, i < n → f i = g i) → nu f n = nu g n
  | 0, _ => rfl
  | n + 1, h => by
    show nu f n + f n * p8 (7 - n) = nu g n + g n * p8 (7 - n)
    rw [nu_congr (n := n) (fun i hi => h i (by omega)), h n (by omega)]
theorem mul_le_p {a b c : Int} (h : a ≤ b) (hc : 1 ≤ c) : a * c ≤ b * c := Int.mul_le_mul_of_nonneg_right h (by omega)
theorem nu_top {f : Nat → Int} : ∀ {n : Nat}, n ≤ 7 → (∀ i, i < n → f i ≤ 7) → nu f n + 8 * p8 (7 - n) ≤ 16777216
  | 0, _, _ => by
    show (0 : Int) + 8 * p8 7 ≤ 16777216
    decide
  | n + 1, hn, h => by
    have h1 := nu_top (f := f) (n := n) (by omega) (fun i hi => h i (by omega))
    have h2 := mul_le_p (h n (by omega)) (p8_1 (7 - n))
    have h3 : p8 (7 - n) = 8 * p8 (7 - (n + 1)) := by
      rw [show 7 - n = (7 - (n + 1)) + 1 by omega]
      rfl
    show nu f n + f n * p8 (7 - n) + 8 * p8 (7 - (n + 1)) ≤ _
    omega
/-- how far the search is -/
def ms (f : Nat → Int) (i : Nat) (j : Int) : Int := 16 * (nu f i + j * p8 (7 - i)) + i
theorem ms_top {f : Nat → Int} {i : Nat} {j : Int} (hi : i ≤ 7) (hf : ∀ k, k < i → f k ≤ 7) (hj : j ≤ 7) : ms f i j < 268435463 := by
  have h1 := nu_top hi hf
  have h2 := mul_le_p hj (p8_1 (7 - i))
  have h3 := p8_1 (7 - i)
  unfold ms
  omega
theorem ms_nxt {f : Nat → Int} {i : Nat} {j : Int} : ms f i j + 1 ≤ ms f i (j + 1) := by
  have h3 := p8_1 (7 - i)
  have h4 : (j + 1) * p8 (7 - i) = j * p8 (7 - i) + p8 (7 - i) := by rw [Int.add_mul, Int.one_mul]
  unfold ms
  omega
theorem ms_adv {f g : Nat → Int} {i : Nat} {j : Int} (hg : ∀ k, k < i → g k = f k) (hj : g i = j) : ms g (i + 1) 0 = ms f i j + 1 := by
  have h1 : nu g (i + 1) = nu f i + j * p8 (7 - i) := by
    show nu g i + g i * p8 (7 - i) = _
    rw [nu_congr hg, hj]
  unfold ms
  rw [h1, Int.zero_mul]
  omega
theorem ms_bck {f : Nat → Int} {i : Nat} {j : Int} (hi : i < 7) (hj : j ≤ 7) : ms f (i + 1) j + 1 ≤ ms f i (f i + 1) := by
  have h0 : nu f (i + 1) = nu f i + f i * p8 (7 - i) := rfl
  have h1 : p8 (7 - i) = 8 * p8 (7 - (i + 1)) := by
    rw [show 7 - i = (7 - (i + 1)) + 1 by omega]
    rfl
  have h2 := mul_le_p hj (p8_1 (7 - (i + 1)))
  have h3 := p8_1 (7 - (i + 1))
  have h4 : (f i + 1) * p8 (7 - i) = f i * p8 (7 - i) + p8 (7 - i) := by rw [Int.add_mul, Int.one_mul]
  unfold ms
  rw [h0, h4]
  omega
def mz (A : Nat → Nat → Int) (i j : Int) : Int := ms (A 22) i.toNat j
theorem mz_put {A : Nat → Nat → Int} {k q : Nat} {v i j : Int} (h : ¬ 22 = k) : mz (hs_ua A k q v) i j = mz A i j := by
  unfold mz
  rw [hs_ua_ne h]
theorem mz_p21 {A : Nat → Nat → Int} {q : Nat} {v i j : Int} : mz (hs_ua A 21 q v) i j = mz A i j := mz_put (by decide)
theorem mz_p23 {A : Nat → Nat → Int} {q : Nat} {v i j : Int} : mz (hs_ua A 23 q v) i j = mz A i j := mz_put (by decide)
theorem ua_16_21 {A : Nat → Nat → Int} {q : Nat} {v : Int} : hs_ua A 21 q v 16 = A 16 := hs_ua_ne (by decide)
theorem ua_16_22 {A : Nat → Nat → Int} {q : Nat} {v : Int} : hs_ua A 22 q v 16 = A 16 := hs_ua_ne (by decide)
def lv (w : Int) (A : Nat → Nat → Int) (i : Int) : Prop := ∀ k : Nat, (k : Int) < i → 0 ≤ A 22 k ∧ A 22 k < w
theorem lv.put {w : Int} {A : Nat → Nat → Int} {k q : Nat} {v i : Int} (h : ¬ 22 = k) (hl : lv w A i) : lv w (hs_ua A k q v) i := fun m hm => by
  rw [hs_ua_ne h]
  exact hl m hm
theorem lv.bck {w : Int} {A : Nat → Nat → Int} {i : Int} (hl : lv w A i) : lv w A (i + -1) := fun m hm => hl m (by omega)
theorem lv.adv {w : Int} {A : Nat → Nat → Int} {i j : Int} (hi : 0 ≤ i) (hj : 0 ≤ j ∧ j < w) (hl : lv w A i) : lv w (hs_ua A 22 i.toNat j) (i + 1) := fun m hm => by
  rw [hs_ua_k]
  by_cases e : m = i.toNat
  · rw [if_pos e]; exact hj
  · rw [if_neg e]; exact hl m (by omega)
theorem mz_nxt {A : Nat → Nat → Int} {i j : Int} : mz A i j + 1 ≤ mz A i (j + 1) := ms_nxt
theorem mz_adv {A : Nat → Nat → Int} {i j : Int} (hi : 0 ≤ i) : mz (hs_ua A 22 i.toNat j) (i + 1) 0 = mz A i j + 1 := by
  unfold mz
  rw [show (i + 1).toNat = i.toNat + 1 by omega]
  refine ms_adv (fun k hk => ?_) ?_
  · rw [hs_ua_k, if_neg (by omega)]
  · rw [hs_ua_k, if_pos rfl]
theorem mz_bck {A : Nat → Nat → Int} {i j : Int} (hi : 1 ≤ i ∧ i ≤ 7) (hj : j ≤ 7) : mz A i j + 1 ≤ mz A (i + -1) (A 22 (i + -1).toNat + 1) := by
  unfold mz
  rw [show i.toNat = (i + -1).toNat + 1 by omega]
  exact ms_bck (by omega) hj
theorem mz_top {w : Int} {A : Nat → Nat → Int} {i j : Int} (hw : w ≤ 7) (hi : 0 ≤ i ∧ i ≤ 7) (hj : j ≤ 7) (hl : lv w A i) : mz A i j < 268435463 := by
  unfold mz
  refine ms_top (by omega) (fun k hk => ?_) hj
  have := hl k (by omega)
  omega
def lb (S : hs_S) (A : Nat → Nat → Int) : Prop := ∀ k, ¬ k = 21 → ¬ k = 22 → ¬ k = 23 → A k = S.2 k
theorem lb.put {S : hs_S} {A : Nat → Nat → Int} {j i : Nat} {v : Int} (h : lb S A) (hj : j = 21 ∨ j = 22 ∨ j = 23) : lb S (hs_ua A j i v) := fun k h1 h2 h3 => by rw [hs_ua_ne (by omega)]; exact h k h1 h2 h3
def t_away : hs_T := fun as S post => match as with
  | [(4, z), (0, a), (0, b)] => z = 0 ∧ (0 ≤ a ∧ a ≤ 15) ∧ (0 ≤ b ∧ b ≤ 15) ∧ ∀ v, post [(0, v)] S
  | _ => False
theorem c_away : hs_C hs_sh 33 t_away := by
  refine hs_met0 (nL := 5) (n0 := 80) [22, 46, 54, 66, 72] e_18 (by decide +kernel) rfl rfl ?_
  intro as S post h
  unfold t_away at h
  split at h
  · obtain ⟨rfl, p1, p2, p3⟩ := h
    refine ⟨Nat.le_of_ble_eq_true rfl, ?_⟩
    repeat' (first | (refine And.intro ?_ ?_) | (intro _))
    all_goals (first | omega | ((try dsimp only at *) <;> (try simp only [hs_up_r, Nat.reduceBEq, cond_true, cond_false, Int.reduceToNat, not_true_eq_false, not_false_eq_true, true_and, and_true] at *) <;> omega) | (exact p3 _))
  · cases h
def E_19 : hs_E := hs_ad E_18 33 t_away
theorem e_19 : ∀ K, hs_C hs_sh K (E_19 K) := hs_ad_ok e_18 c_away
def wz (A : Nat → Nat → Int) : Prop := ∀ x : Int, 0 ≤ x → x < 7 → 0 ≤ A 16 x.toNat ∧ A 16 x.toNat ≤ 15
def t_mayLead : hs_T := fun as S post => match as with
  | [(4, z), (0, a), (0, b), (0, _), (0, _), (0, _)] => z = 0 ∧ (0 ≤ a ∧ a < 7) ∧ (0 ≤ b ∧ b < 7) ∧ hs_o (wz S.2) ∧ (post [(0, 0)] S ∧ post [(0, 1)] S)
  | _ => False
theorem c_mayLead : hs_C hs_sh 101 t_mayLead := by
  refine hs_met0 (nL := 7) (n0 := 80) [56, 76] e_19 (by decide +kernel) rfl rfl ?_
  intro as S post h
  unfold t_mayLead at h
  split at h
  · rename_i z a b _ _ _
    obtain ⟨rfl, p1, p2, ⟨-, p3⟩, p4, p5⟩ := h
    have w1 := p3 a p1.1 p1.2
    have w2 := p3 b p2.1 p2.2
    refine ⟨Nat.le_of_ble_eq_true rfl, ?_⟩
    repeat' (first | (refine And.intro ?_ ?_) | (intro _))
    all_goals (first | omega | (dsimp only at *; omega) | exact p4 | exact p5 | ((try dsimp only at *) <;> (try simp only [hs_up_r, Nat.reduceBEq, cond_true, cond_false, Int.reduceToNat, not_true_eq_false, not_false_eq_true, true_and, and_true] at *) <;> omega))
  · cases h
def E_20 : hs_E := hs_ad E_19 101 t_mayLead
theorem e_20 : ∀ K, hs_C hs_sh K (E_20 K) := hs_ad_ok e_19 c_mayLead
def t_leastBy : hs_T := fun as S post => match as with
  | [(4, z), (0, x)] => z = 0 ∧ (0 ≤ S.1 34 ∧ S.1 34 ≤ 7) ∧ hs_o (wz S.2) ∧ ∀ v A, lb S A → post [(0, v)] (S.1, A)
  | _ => False
theorem c_leastBy : hs_C hs_sh 95 t_leastBy := by
  refine hs_met (nL := 7) (n0 := 60) (n := 120) [152, 173, 221, 242] [13, 34, 53, 85] e_20 (by decide +kernel) rfl rfl ?_
  intro as S post h
  unfold t_leastBy at h
  split at h
  · rename_i z x
    obtain ⟨rfl, hw, ⟨-, hwz⟩, hp⟩ := h
    have hA : lb S S.2 := fun _ _ _ _ => rfl
    refine ⟨Nat.le_of_ble_eq_true rfl, fun hh k g st S' => st = [] ∧ ∃ A, S' = (S.1, A) ∧ lb S A ∧ ((hh = 13 ∧ ∃ b s i j m, g = [(0, (4, 0)), (1, (0, x)), (2, (0, b)), (3, (0, s)), (4, (0, i)), (5, (0, j)), (6, (0, m))] ∧ i = 0 ∧ j = 0 ∧ (0 ≤ m ∧ m ≤ 7) ∧ 10000000007 - m ≤ k) ∨ (hh = 34 ∧ ∃ b s i j, g = [(0, (4, 0)), (1, (0, x)), (2, (0, b)), (3, (0, s)), (4, (0, i)), (5, (0, j))] ∧ (i = -1 ∨ ((0 ≤ i ∧ i ≤ S.1 34) ∧ (0 ≤ j ∧ j ≤ S.1 34) ∧ hs_o (lv (S.1 34) A i) ∧ 20 * (268435463 - mz A i j) ≤ k))) ∨ (hh = 53 ∧ ∃ b s i j m, g = [(0, (4, 0)), (1, (0, x)), (2, (0, b)), (3, (0, s)), (4, (0, i)), (5, (0, j)), (6, (0, m))] ∧ (0 ≤ i ∧ i ≤ S.1 34) ∧ (0 ≤ j ∧ j ≤ S.1 34) ∧ hs_o (lv (S.1 34) A i) ∧ (0 ≤ m ∧ m ≤ 7) ∧ 20 * (268435463 - mz A i j) - 12 + (7 - m) ≤ k) ∨ (hh = 85 ∧ ∃ b s i j, g = [(0, (4, 0)), (1, (0, x)), (2, (0, b)), (3, (0, s)), (4, (0, i)), (5, (0, j))] ∧ (0 ≤ i ∧ i < S.1 34) ∧ (0 ≤ j ∧ j ≤ S.1 34) ∧ hs_o (lv (S.1 34) A i) ∧ 20 * (268435463 - mz A i j) - 5 ≤ k)), ?_, ?_⟩
    · refine Exists.intro 20000000000 (Exists.intro [(0, (4, 0)), (1, (0, x)), (2, (0, _)), (3, (0, _)), (4, (0, _)), (5, (0, _)), (6, (0, _))] (And.intro (And.intro rfl (And.intro rfl (And.intro rfl (And.intro rfl (And.intro rfl (And.intro rfl (And.intro rfl (trivial)))))))) (And.intro rfl (Exists.intro _ (And.intro rfl (And.intro ?_ (Or.inl (And.intro rfl (Exists.intro _ (Exists.intro _ (Exists.intro _ (Exists.intro _ (Exists.intro _ (And.intro rfl (And.intro rfl (And.intro rfl (And.intro ?_ ?_))))))))))))))))) <;> (first | omega | (dsimp only at *; omega) | assumption | (first | assumption | exact hA.put (Or.inl rfl) | exact (hA.put (Or.inr (Or.inl rfl))).put (Or.inl rfl) | exact hA.put (Or.inr (Or.inr rfl))) | ((try dsimp only at *) <;> (try simp only [hs_up_r, Nat.reduceBEq, cond_true, cond_false, Int.reduceToNat, not_true_eq_false, not_false_eq_true, true_and, and_true] at *) <;> omega))
    · intro hh hm
      simp only [List.mem_cons, List.not_mem_nil, or_false] at hm
      rcases hm with rfl | rfl | rfl | rfl
      · intro k g st S' hI
        obtain ⟨rfl, A, rfl, hA, ⟨-, b, s, i, j, m, rfl, rfl, rfl, hm, hk⟩ | ⟨e, -⟩ | ⟨e, -⟩ | ⟨e, -⟩⟩ := hI
        rotate_left
        · exact absurd e (by decide)
        · exact absurd e (by decide)
        · exact absurd e (by decide)
        have L0 : hs_o (lv (S.1 34) A 0) := hs_o.of (fun m hm => by omega)
        have M0 : ¬ m < 7 → 20 * (268435463 - mz A 0 0) ≤ 10000000007 - m - 100 := fun h => by
          have : mz A 0 0 = 0 := rfl
          omega
        clear hp hwz
        repeat' (first | (refine And.intro ?_ ?_) | (intro _))
        all_goals (first | omega | (dsimp only at *; omega) | ((try dsimp only at *) <;> (try simp only [hs_up_r, Nat.reduceBEq, cond_true, cond_false, Int.reduceToNat, not_true_eq_false, not_false_eq_true, true_and, and_true] at *) <;> omega) | (refine Exists.intro (k - 1) (And.intro ?_ (Exists.intro [(0, (4, 0)), (1, (0, x)), (2, (0, _)), (3, (0, _)), (4, (0, _)), (5, (0, _)), (6, (0, _))] (And.intro (And.intro rfl (And.intro rfl (And.intro rfl (And.intro rfl (And.intro rfl (And.intro rfl (And.intro rfl (trivial)))))))) (And.intro rfl (Exists.intro _ (And.intro rfl (And.intro ?_ (Or.inl (And.intro rfl (Exists.intro _ (Exists.intro _ (Exists.intro _ (Exists.intro _ (Exists.intro _ (And.intro rfl (And.intro rfl (And.intro rfl (And.intro ?_ ?_)))))))))))))))))) <;> (first | omega | (dsimp only at *; omega) | assumption | (first | assumption | exact hA.put (Or.inl rfl) | exact (hA.put (Or.inr (Or.inl rfl))).put (Or.inl rfl) | exact hA.put (Or.inr (Or.inr rfl))) | ((try dsimp only at *) <;> (try simp only [hs_up_r, Nat.reduceBEq, cond_true, cond_false, Int.reduceToNat, not_true_eq_false, not_false_eq_true, true_and, and_true] at *) <;> omega))) | (refine Exists.intro (k - 1) (And.intro ?_ (Exists.intro [(0, (4, 0)), (1, (0, x)), (2, (0, _)), (3, (0, _)), (4, (0, _)), (5, (0, _))] (And.intro (And.intro rfl (And.intro rfl (And.intro rfl (And.intro rfl (And.intro rfl (And.intro rfl (trivial))))))) (And.intro rfl (Exists.intro _ (And.intro rfl (And.intro ?_ (Or.inr (Or.inl (And.intro rfl (Exists.intro _ (Exists.intro _ (Exists.intro _ (Exists.intro _ (And.intro rfl (Or.inr (And.intro ?_ (And.intro ?_ (And.intro ?_ ?_))))))))))))))))))) <;> (first | omega | (dsimp only at *; omega) | assumption | (first | assumption | exact hA.put (Or.inl rfl) | exact (hA.put (Or.inr (Or.inl rfl))).put (Or.inl rfl) | exact hA.put (Or.inr (Or.inr rfl))) | ((try dsimp only at *) <;> (try simp only [hs_up_r, Nat.reduceBEq, cond_true, cond_false, Int.reduceToNat, not_true_eq_false, not_false_eq_true, true_and, and_true] at *) <;> omega))))
      · intro k g st S' hI
        obtain ⟨rfl, A, rfl, hA, ⟨e, -⟩ | ⟨-, b, s, i, j, rfl, hI⟩ | ⟨e, -⟩ | ⟨e, -⟩⟩ := hI
        · exact absurd e (by decide)
        rotate_left
        · exact absurd e (by decide)
        · exact absurd e (by decide)
        have KP : ∀ v, post [(0, v)] (S.1, A) := fun v => hp v A hA
        rcases hI with rfl | ⟨hi, hj, ⟨-, hl⟩, hk⟩
        · clear hp hwz hA
          repeat' (first | (refine And.intro ?_ ?_) | (intro _))
          all_goals (first | omega | (dsimp only at *; omega) | exact KP _ | ((try dsimp only at *) <;> (try simp only [hs_up_r, Nat.reduceBEq, cond_true, cond_false, Int.reduceToNat, not_true_eq_false, not_false_eq_true, true_and, and_true] at *) <;> omega))
        have hT := mz_top (i := i) (j := j) hw.2 (by omega) (by omega) hl
        have hl := hs_o.of hl
        clear hp hwz
        repeat' (first | (refine And.intro ?_ ?_) | (intro _))
        all_goals (first | omega | (dsimp only at *; omega) | exact KP _ | ((try dsimp only at *) <;> (try simp only [hs_up_r, Nat.reduceBEq, cond_true, cond_false, Int.reduceToNat, not_true_eq_false, not_false_eq_true, true_and, and_true] at *) <;> omega) | (refine Exists.intro (k - 1) (And.intro ?_ (Exists.intro [(0, (4, 0)), (1, (0, x)), (2, (0, _)), (3, (0, _)), (4, (0, _)), (5, (0, _)), (6, (0, _))] (And.intro (And.intro rfl (And.intro rfl (And.intro rfl (And.intro rfl (And.intro rfl (And.intro rfl (And.intro rfl (trivial)))))))) (And.intro rfl (Exists.intro _ (And.intro rfl (And.intro ?_ (Or.inr (Or.inr (Or.inl (And.intro rfl (Exists.intro _ (Exists.intro _ (Exists.intro _ (Exists.intro _ (Exists.intro _ (And.intro rfl (And.intro ?_ (And.intro ?_ (And.intro ?_ (And.intro ?_ ?_))))))))))))))))))))) <;> (first | omega | (dsimp only at *; omega) | assumption | (first | assumption | exact hA.put (Or.inl rfl) | exact (hA.put (Or.inr (Or.inl rfl))).put (Or.inl rfl) | exact hA.put (Or.inr (Or.inr rfl))) | ((try dsimp only at *) <;> (try simp only [hs_up_r, Nat.reduceBEq, cond_true, cond_false, Int.reduceToNat, not_true_eq_false, not_false_eq_true, true_and, and_true] at *) <;> omega))) | (refine Exists.intro (k - 1) (And.intro ?_ (Exists.intro [(0, (4, 0)), (1, (0, x)), (2, (0, _)), (3, (0, _)), (4, (0, _)), (5, (0, _))] (And.intro (And.intro rfl (And.intro rfl (And.intro rfl (And.intro rfl (And.intro rfl (And.intro rfl (trivial))))))) (And.intro rfl (Exists.intro _ (And.intro rfl (And.intro ?_ (Or.inr (Or.inr (Or.inr (And.intro rfl (Exists.intro _ (Exists.intro _ (Exists.intro _ (Exists.intro _ (And.intro rfl (And.intro ?_ (And.intro ?_ (And.intro ?_ ?_))))))))))))))))))) <;> (first | omega | (dsimp only at *; omega) | assumption | (first | assumption | exact hA.put (Or.inl rfl) | exact (hA.put (Or.inr (Or.inl rfl))).put (Or.inl rfl) | exact hA.put (Or.inr (Or.inr rfl))) | ((try dsimp only at *) <;> (try simp only [hs_up_r, Nat.reduceBEq, cond_true, cond_false, Int.reduceToNat, not_true_eq_false, not_false_eq_true, true_and, and_true] at *) <;> omega))))
      · intro k g st S' hI
        obtain ⟨rfl, A, rfl, hA, ⟨e, -⟩ | ⟨e, -⟩ | ⟨-, b, s, i, j, m, rfl, hi, hj, ⟨-, hl⟩, hm, hk⟩ | ⟨e, -⟩⟩ := hI
        · exact absurd e (by decide)
        · exact absurd e (by decide)
        rotate_left
        · exact absurd e (by decide)
        have hW : ∀ y : Int, 0 ≤ y → y < 7 → 0 ≤ A 16 y.toNat ∧ A 16 y.toNat ≤ 15 := fun y h1 h2 => by
          rw [hA 16 (by decide) (by decide) (by decide)]
          exact hwz y h1 h2
        have hT := mz_top (i := i) (j := j) hw.2 (by omega) (by omega) hl
        have L0 : 0 ≤ i + -1 → 0 ≤ A 22 (i + -1).toNat ∧ A 22 (i + -1).toNat < S.1 34 := fun h => hl _ (by omega)
        have W1 : 0 ≤ i + -1 → 0 ≤ A 16 (i + -1).toNat ∧ A 16 (i + -1).toNat ≤ 15 := fun h => hW _ h (by omega)
        have W2 : 0 ≤ i + -1 → 0 ≤ A 16 (A 22 (i + -1).toNat).toNat ∧ A 16 (A 22 (i + -1).toNat).toNat ≤ 15 := fun h => hW _ (L0 h).1 (by have := L0 h; omega)
        have LB : ∀ q v, hs_o (lv (S.1 34) (hs_ua A 21 q v) (i + -1)) := fun q v => hs_o.of (hl.bck.put (by decide))
        have MB : ¬ i + -1 < 0 → mz A i j + 1 ≤ mz A (i + -1) (A 22 (i + -1).toNat + 1) := fun h => mz_bck (by omega) (by omega)
        have LC : ∀ q v, hs_o (lv (S.1 34) (hs_ua A 23 q v) i) := fun q v => hs_o.of (hl.put (by decide))
        clear hp hwz hW
        repeat' (first | (refine And.intro ?_ ?_) | (intro _))
        all_goals (first | omega | (dsimp only at *; omega) | (dsimp only at *; simp only [Int.reduceToNat, ua_16_21, ua_16_22]; omega) | ((try dsimp only at *) <;> (try simp only [hs_up_r, Nat.reduceBEq, cond_true, cond_false, Int.reduceToNat, not_true_eq_false, not_false_eq_true, true_and, and_true] at *) <;> omega) | (refine Exists.intro (k - 1) (And.intro ?_ (Exists.intro [(0, (4, 0)), (1, (0, x)), (2, (0, _)), (3, (0, _)), (4, (0, _)), (5, (0, _))] (And.intro (And.intro rfl (And.intro rfl (And.intro rfl (And.intro rfl (And.intro rfl (And.intro rfl (trivial))))))) (And.intro rfl (Exists.intro _ (And.intro rfl (And.intro ?_ (Or.inr (Or.inl (And.intro rfl (Exists.intro _ (Exists.intro _ (Exists.intro _ (Exists.intro _ (And.intro rfl (Or.inr (And.intro ?_ (And.intro ?_ (And.intro ?_ ?_))))))))))))))))))) <;> (first | exact LB _ _ | (dsimp only at *; simp only [Int.reduceToNat, mz_p21, mz_p23]; omega) | first | omega | (dsimp only at *; omega) | assumption | (first | assumption | exact hA.put (Or.inl rfl) | exact (hA.put (Or.inr (Or.inl rfl))).put (Or.inl rfl) | exact hA.put (Or.inr (Or.inr rfl))) | ((try dsimp only at *) <;> (try simp only [hs_up_r, Nat.reduceBEq, cond_true, cond_false, Int.reduceToNat, not_true_eq_false, not_false_eq_true, true_and, and_true] at *) <;> omega))) | (refine Exists.intro (k - 1) (And.intro ?_ (Exists.intro [(0, (4, 0)), (1, (0, x)), (2, (0, _)), (3, (0, _)), (4, (0, _)), (5, (0, _))] (And.intro (And.intro rfl (And.intro rfl (And.intro rfl (And.intro rfl (And.intro rfl (And.intro rfl (trivial))))))) (And.intro rfl (Exists.intro _ (And.intro rfl (And.intro ?_ (Or.inr (Or.inl (And.intro rfl (Exists.intro _ (Exists.intro _ (Exists.intro _ (Exists.intro _ (And.intro rfl (Or.inl ?_)))))))))))))))) <;> (first | omega | (dsimp only at *; omega) | assumption | (first | assumption | exact hA.put (Or.inl rfl) | exact (hA.put (Or.inr (Or.inl rfl))).put (Or.inl rfl) | exact hA.put (Or.inr (Or.inr rfl))) | ((try dsimp only at *) <;> (try simp only [hs_up_r, Nat.reduceBEq, cond_true, cond_false, Int.reduceToNat, not_true_eq_false, not_false_eq_true, true_and, and_true] at *) <;> omega))) | (refine Exists.intro (k - 1) (And.intro ?_ (Exists.intro [(0, (4, 0)), (1, (0, x)), (2, (0, _)), (3, (0, _)), (4, (0, _)), (5, (0, _)), (6, (0, _))] (And.intro (And.intro rfl (And.intro rfl (And.intro rfl (And.intro rfl (And.intro rfl (And.intro rfl (And.intro rfl (trivial)))))))) (And.intro rfl (Exists.intro _ (And.intro rfl (And.intro ?_ (Or.inr (Or.inr (Or.inl (And.intro rfl (Exists.intro _ (Exists.intro _ (Exists.intro _ (Exists.intro _ (Exists.intro _ (And.intro rfl (And.intro ?_ (And.intro ?_ (And.intro ?_ (And.intro ?_ ?_))))))))))))))))))))) <;> (first | exact LC _ _ | (dsimp only at *; simp only [Int.reduceToNat, mz_p21, mz_p23]; omega) | first | omega | (dsimp only at *; omega) | assumption | (first | assumption | exact hA.put (Or.inl rfl) | exact (hA.put (Or.inr (Or.inl rfl))).put (Or.inl rfl) | exact hA.put (Or.inr (Or.inr rfl))) | ((try dsimp only at *) <;> (try simp only [hs_up_r, Nat.reduceBEq, cond_true, cond_false, Int.reduceToNat, not_true_eq_false, not_false_eq_true, true_and, and_true] at *) <;> omega))))
      · intro k g st S' hI
        obtain ⟨rfl, A, rfl, hA, ⟨e, -⟩ | ⟨e, -⟩ | ⟨e, -⟩ | ⟨-, b, s, i, j, rfl, hi, hj, ⟨-, hl⟩, hk⟩⟩ := hI
        · exact absurd e (by decide)
        · exact absurd e (by decide)
        · exact absurd e (by decide)
        have hW : ∀ y : Int, 0 ≤ y → y < 7 → 0 ≤ A 16 y.toNat ∧ A 16 y.toNat ≤ 15 := fun y h1 h2 => by
          rw [hA 16 (by decide) (by decide) (by decide)]
          exact hwz y h1 h2
        have hT := mz_top (i := i) (j := j) hw.2 (by omega) (by omega) hl
        have L0 : 0 ≤ i + -1 → 0 ≤ A 22 (i + -1).toNat ∧ A 22 (i + -1).toNat < S.1 34 := fun h => hl _ (by omega)
        have W1 : 0 ≤ i + -1 → 0 ≤ A 16 (i + -1).toNat ∧ A 16 (i + -1).toNat ≤ 15 := fun h => hW _ h (by omega)
        have W2 : 0 ≤ i + -1 → 0 ≤ A 16 (A 22 (i + -1).toNat).toNat ∧ A 16 (A 22 (i + -1).toNat).toNat ≤ 15 := fun h => hW _ (L0 h).1 (by have := L0 h; omega)
        have LB : ∀ q v, hs_o (lv (S.1 34) (hs_ua A 21 q v) (i + -1)) := fun q v => hs_o.of (hl.bck.put (by decide))
        have MB : ¬ i + -1 < 0 → mz A i j + 1 ≤ mz A (i + -1) (A 22 (i + -1).toNat + 1) := fun h => mz_bck (by omega) (by omega)
        have hwA : hs_o (wz A) := hs_o.of hW
        have W3 : 0 ≤ A 16 i.toNat ∧ A 16 i.toNat ≤ 15 := hW _ (by omega) (by omega)
        have W4 : j < 7 → 0 ≤ A 16 j.toNat ∧ A 16 j.toNat ≤ 15 := fun h => hW _ (by omega) (by omega)
        have hlo : hs_o (lv (S.1 34) A i) := hs_o.of hl
        have MN := mz_nxt (A := A) (i := i) (j := j)
        have LA : ¬ S.1 34 ≤ j → ∀ q v, hs_o (lv (S.1 34) (hs_ua (hs_ua A 22 i.toNat j) 21 q v) (i + 1)) := fun h q v => hs_o.of ((hl.adv (by omega) (by omega)).put (by decide))
        have MA := mz_adv (A := A) (i := i) (j := j) (by omega)
        clear hp hwz hW
        repeat' (first | (refine And.intro ?_ ?_) | (intro _))
        all_goals (first | omega | (dsimp only at *; omega) | exact hwA | (dsimp only at *; simp only [Int.reduceToNat, ua_16_21, ua_16_22]; omega) | ((try dsimp only at *) <;> (try simp only [hs_up_r, Nat.reduceBEq, cond_true, cond_false, Int.reduceToNat, not_true_eq_false, not_false_eq_true, true_and, and_true] at *) <;> omega) | (refine Exists.intro (k - 1) (And.intro ?_ (Exists.intro [(0, (4, 0)), (1, (0, x)), (2, (0, _)), (3, (0, _)), (4, (0, _)), (5, (0, _))] (And.intro (And.intro rfl (And.intro rfl (And.intro rfl (And.intro rfl (And.intro rfl (And.intro rfl (trivial))))))) (And.intro rfl (Exists.intro _ (And.intro rfl (And.intro ?_ (Or.inr (Or.inl (And.intro rfl (Exists.intro _ (Exists.intro _ (Exists.intro _ (Exists.intro _ (And.intro rfl (Or.inr (And.intro ?_ (And.intro ?_ (And.intro ?_ ?_))))))))))))))))))) <;> (first | exact LB _ _ | exact LA ‹_› _ _ | (dsimp only at *; simp only [Int.reduceToNat, mz_p21, mz_p23]; omega) | first | omega | (dsimp only at *; omega) | assumption | (first | assumption | exact hA.put (Or.inl rfl) | exact (hA.put (Or.inr (Or.inl rfl))).put (Or.inl rfl) | exact hA.put (Or.inr (Or.inr rfl))) | ((try dsimp only at *) <;> (try simp only [hs_up_r, Nat.reduceBEq, cond_true, cond_false, Int.reduceToNat, not_true_eq_false, not_false_eq_true, true_and, and_true] at *) <;> omega))) | (refine Exists.intro (k - 1) (And.intro ?_ (Exists.intro [(0, (4, 0)), (1, (0, x)), (2, (0, _)), (3, (0, _)), (4, (0, _)), (5, (0, _))] (And.intro (And.intro rfl (And.intro rfl (And.intro rfl (And.intro rfl (And.intro rfl (And.intro rfl (trivial))))))) (And.intro rfl (Exists.intro _ (And.intro rfl (And.intro ?_ (Or.inr (Or.inl (And.intro rfl (Exists.intro _ (Exists.intro _ (Exists.intro _ (Exists.intro _ (And.intro rfl (Or.inl ?_)))))))))))))))) <;> (first | omega | (dsimp only at *; omega) | assumption | (first | assumption | exact hA.put (Or.inl rfl) | exact (hA.put (Or.inr (Or.inl rfl))).put (Or.inl rfl) | exact hA.put (Or.inr (Or.inr rfl))) | ((try dsimp only at *) <;> (try simp only [hs_up_r, Nat.reduceBEq, cond_true, cond_false, Int.reduceToNat, not_true_eq_false, not_false_eq_true, true_and, and_true] at *) <;> omega))) | (refine Exists.intro (k - 1) (And.intro ?_ (Exists.intro [(0, (4, 0)), (1, (0, x)), (2, (0, _)), (3, (0, _)), (4, (0, _)), (5, (0, _))] (And.intro (And.intro rfl (And.intro rfl (And.intro rfl (And.intro rfl (And.intro rfl (And.intro rfl (trivial))))))) (And.intro rfl (Exists.intro _ (And.intro rfl (And.intro ?_ (Or.inr (Or.inr (Or.inr (And.intro rfl (Exists.intro _ (Exists.intro _ (Exists.intro _ (Exists.intro _ (And.intro rfl (And.intro ?_ (And.intro ?_ (And.intro ?_ ?_))))))))))))))))))) <;> (first | omega | (dsimp only at *; omega) | assumption | (first | assumption | exact hA.put (Or.inl rfl) | exact (hA.put (Or.inr (Or.inl rfl))).put (Or.inl rfl) | exact hA.put (Or.inr (Or.inr rfl))) | ((try dsimp only at *) <;> (try simp only [hs_up_r, Nat.reduceBEq, cond_true, cond_false, Int.reduceToNat, not_true_eq_false, not_false_eq_true, true_and, and_true] at *) <;> omega))))
  · cases h
def E_21 : hs_E := hs_ad E_20 95 t_leastBy
theorem e_21 : ∀ K, hs_C hs_sh K (E_21 K) := hs_ad_ok e_20 c_leastBy

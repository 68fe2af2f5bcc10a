/-! ===== the reference: where a name is, which texts are in force ===== -/
def t_hasMoved : hs_T := fun as S post => match as with
  | [(4, z), (0, n), (0, _), (0, _)] => z = 0 ∧ (0 ≤ n ∧ n < 200) ∧ (S.2 1 (68 + 11 * n + 8).toNat = -1 → post [(0, 0)] S) ∧ (¬ S.2 1 (68 + 11 * n + 8).toNat = -1 → ∀ r, (r = 0 ∨ r = 1) → post [(0, r)] S)
  | _ => False
theorem c_hasMoved : hs_C hs_sh 65 t_hasMoved := by
  refine hs_met0 (nL := 5) (n0 := 80) [] e_3 (by decide +kernel) rfl rfl ?_
  intro as S post h
  unfold t_hasMoved at h
  split at h
  · obtain ⟨rfl, hn, p1, p2⟩ := h
    refine ⟨Nat.le_of_ble_eq_true rfl, ?_⟩
    repeat' (first | (refine And.intro ?_ ?_) | (intro _))
    all_goals (first | omega | ((try dsimp only at *) <;> (try simp only [hs_up_r, Nat.reduceBEq, cond_true, cond_false, Int.reduceToNat, not_true_eq_false, not_false_eq_true, true_and, and_true] at *) <;> omega) | ((refine p1 ?_ <;> first | assumption | ((try dsimp only at *) <;> (try simp only [hs_up_r, Nat.reduceBEq, cond_true, cond_false, Int.reduceToNat, not_true_eq_false, not_false_eq_true, true_and, and_true] at *) <;> omega))) | ((refine p2 ?_ _ ?_ <;> first | omega | assumption | ((try dsimp only at *) <;> (try simp only [hs_up_r, Nat.reduceBEq, cond_true, cond_false, Int.reduceToNat, not_true_eq_false, not_false_eq_true, true_and, and_true] at *) <;> omega))))
  · cases h
def E_13 : hs_E := hs_ad E_3 65 t_hasMoved
theorem e_13 : ∀ K, hs_C hs_sh K (E_13 K) := hs_ad_ok e_3 c_hasMoved
def t_whereOf : hs_T := fun as S post => match as with
  | [(4, z), (0, n), (0, _), (0, _)] => z = 0 ∧ (0 ≤ n ∧ n < 200) ∧ hs_o (ro (S.2 1)) ∧ ∀ r, (0 ≤ r ∧ r ≤ 15) → post [(0, r)] S
  | _ => False
theorem c_whereOf : hs_C hs_sh 152 t_whereOf := by
  refine hs_met0 (nL := 4) (n0 := 60) [] e_13 (by decide +kernel) rfl rfl ?_
  intro as S post h
  unfold t_whereOf at h
  split at h
  · rename_i z n d kn
    obtain ⟨rfl, hn, ⟨-, hro⟩, hp⟩ := h
    refine ⟨Nat.le_of_ble_eq_true rfl, ?_⟩
    have q := hro.2.1 n.toNat (by omega)
    have q1 : 0 ≤ S.2 1 (68 + 11 * n).toNat ∧ S.2 1 (68 + 11 * n).toNat ≤ 15 := by rw [show (68 + 11 * n).toNat = 68 + 11 * n.toNat by omega]; exact q.1
    have q2 : -1 ≤ S.2 1 (68 + 11 * n + 8).toNat ∧ S.2 1 (68 + 11 * n + 8).toNat ≤ 15 := by rw [show (68 + 11 * n + 8).toNat = 76 + 11 * n.toNat by omega]; exact q.2
    clear hro q
    repeat' (first | (refine And.intro ?_ ?_) | (intro _))
    all_goals (first | omega | (dsimp only at *; omega) | (refine hp _ ?_; first | assumption | omega | ((try dsimp only at *) <;> (try simp only [hs_up_r, Nat.reduceBEq, cond_true, cond_false, Int.reduceToNat, not_true_eq_false, not_false_eq_true, true_and, and_true] at *) <;> omega)) | ((try dsimp only at *) <;> (try simp only [hs_up_r, Nat.reduceBEq, cond_true, cond_false, Int.reduceToNat, not_true_eq_false, not_false_eq_true, true_and, and_true] at *) <;> omega))
  · cases h
def E_14 : hs_E := hs_ad E_13 152 t_whereOf
theorem e_14 : ∀ K, hs_C hs_sh K (E_14 K) := hs_ad_ok e_13 c_whereOf

/-! ===== back of the reference, with its answers told exactly ===== -/
def t_bk2 : hs_T := fun as S post => match as with
  | [(4, z), (0, i)] => z = 0 ∧ (¬ (0 ≤ i ∧ i ≤ 1) → ∀ w, post [(0, -1)] (hs_up (hs_up S.1 0 0) 1 w, S.2)) ∧ (0 ≤ i → i ≤ 1 → S.2 3 i.toNat = 0 → ∀ w, post [(0, -2)] (hs_up (hs_up S.1 0 0) 1 w, S.2)) ∧ (0 ≤ i → i ≤ 1 → ¬ S.2 3 i.toNat = 0 → ∀ w A, bv S i 23016 A → post [(0, 0)] (hs_up (hs_up S.1 0 0) 1 w, A))
  | _ => False
theorem c_bk2 : hs_C hs_sh2 34 t_bk2 := by
  refine hs_met (nL := 3) (n0 := 90) (n := 120) [] [39] e_b (by decide +kernel) rfl rfl ?_
  intro as S post h
  unfold t_bk2 at h
  split at h
  · rename_i z i
    obtain ⟨rfl, h1, h3, h2⟩ := h
    have Q0 : hs_o (bv S i 0 S.2) := hs_o.of ⟨fun _ _ => rfl, fun j hj => by omega, fun _ _ => rfl⟩
    refine ⟨Nat.le_of_ble_eq_true rfl, (fun hh k g st S' => st = [] ∧ ∃ A m, S' = (hs_up S.1 0 0, A) ∧ g = [(0, (4, 0)), (1, (0, i)), (2, (0, m))] ∧ hs_o (bv S i m A) ∧ (0 ≤ i ∧ i ≤ 1 ∧ ¬ S.2 3 i.toNat = 0) ∧ (0 ≤ m ∧ m ≤ 23016) ∧ 23017 - m ≤ k), ?_, ?_⟩
    · clear h2
      repeat' (first | (refine And.intro ?_ ?_) | (intro _))
      all_goals (first | omega | exact h1 (by omega) _ | exact h3 (by omega) (by omega) (by first | omega | assumption | (simp only [not_not] at *; omega) | (simp only [Decidable.not_not] at *; assumption)) _ | (dsimp only at *; omega) | ((try dsimp only at *) <;> (try simp only [hs_up_r, Nat.reduceBEq, cond_true, cond_false, Int.reduceToNat, not_true_eq_false, not_false_eq_true, true_and, and_true] at *) <;> omega) | (refine Exists.intro 100000 (Exists.intro [(0, (4, 0)), (1, (0, i)), (2, (0, _))] (And.intro (And.intro rfl (And.intro rfl (And.intro rfl (trivial)))) (And.intro rfl (Exists.intro _ (Exists.intro _ (And.intro rfl (And.intro rfl (And.intro ?_ (And.intro ?_ (And.intro ?_ ?_)))))))))) <;> (first | omega | exact Q0 | ((try dsimp only at *) <;> (try simp only [hs_up_r, Nat.reduceBEq, cond_true, cond_false, Int.reduceToNat, not_true_eq_false, not_false_eq_true, true_and, and_true] at *) <;> omega) | (dsimp only at *; simp only [Int.reduceToNat] at *; refine ⟨?_, ?_, ?_⟩ <;> first | omega | assumption))))
    · intro hh hm
      simp only [List.mem_cons, List.not_mem_nil, or_false] at hm
      subst hm
      intro k g st S' hI
      obtain ⟨rfl, A, m, rfl, rfl, hA, hi, hmm, hk⟩ := hI
      have N1 : m < 23016 → hs_o (bv S i (m + 1) (hs_ua A 1 m.toNat (A 2 (23016 * i + m).toNat))) := fun h => hs_o.of (hA.to.put hi.1 ⟨hmm.1, h⟩)
      have KD : 23016 ≤ m → ∀ w, post [(0, 0)] (hs_up (hs_up S.1 0 0) 1 w, A) := fun h w => h2 hi.1 hi.2.1 hi.2.2 w _ (bv_done h hA.to)
      clear h1 h2 h3
      repeat' (first | (refine And.intro ?_ ?_) | (intro _))
      all_goals (first | omega | (dsimp only at *; omega) | exact KD (by omega) _ | exact Or.inl rfl | exact Or.inr rfl | ((try dsimp only at *) <;> (try simp only [hs_up_r, Nat.reduceBEq, cond_true, cond_false, Int.reduceToNat, not_true_eq_false, not_false_eq_true, true_and, and_true] at *) <;> omega) | (refine Exists.intro (k - 1) (And.intro ?_ (Exists.intro [(0, (4, 0)), (1, (0, i)), (2, (0, _))] (And.intro (And.intro rfl (And.intro rfl (And.intro rfl (trivial)))) (And.intro rfl (Exists.intro _ (Exists.intro _ (And.intro rfl (And.intro rfl (And.intro ?_ (And.intro ?_ (And.intro ?_ ?_))))))))))) <;> (first | omega | exact hi | exact N1 (by omega) | (dsimp only at *; omega) | ((try dsimp only at *) <;> (try simp only [hs_up_r, Nat.reduceBEq, cond_true, cond_false, Int.reduceToNat, not_true_eq_false, not_false_eq_true, true_and, and_true] at *) <;> omega))))
  · cases h

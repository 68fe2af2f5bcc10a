/-! ===== the reference's reader of tokens ===== -/
theorem hs_up_r {f : Nat → Int} {i j : Nat} {v : Int} : hs_up f i v j = bif j == i then v else f j := rfl
/-- fields but for some are as they were -/
def hs_fr (L : List Nat) (f g : Nat → Int) : Prop := ∀ j, L.contains j = false → g j = f j
theorem hs_fr.rf {L : List Nat} {f : Nat → Int} : hs_fr L f f := fun _ _ => rfl
theorem hs_fr.up {L : List Nat} {f g : Nat → Int} {i : Nat} {v : Int} (hi : L.contains i = true) (h : hs_fr L f g) : hs_fr L f (hs_up g i v) := fun j hj => by
  have e : ¬ j = i := fun e => by rw [e, hi] at hj; cases hj
  rw [hs_up_ne e]
  exact h j hj
theorem hs_fr.tr {L : List Nat} {f g k : Nat → Int} (h1 : hs_fr L f g) (h2 : hs_fr L g k) : hs_fr L f k := fun j hj => (h2 j hj).trans (h1 j hj)
def hs_sub (L M : List Nat) : Bool := L.all (fun j => M.contains j)
theorem hs_fr.wk {L M : List Nat} {f g : Nat → Int} (hs : hs_sub L M = true) (h : hs_fr L f g) : hs_fr M f g := fun j hj => h j (by
  cases e : L.contains j with
  | false => rfl
  | true =>
    have := List.all_eq_true.mp hs j (by simpa using e)
    rw [this] at hj
    cases hj)
/-- what the next token is -/
def k_next (T0 : Int) (F : Nat → Int) : Prop := T0 ≤ F 11 ∧ F 11 ≤ F 12 ∧ F 12 ≤ F 10 ∧ (0 ≤ F 13 ∧ F 13 ≤ 3) ∧ (F 13 = 0 → F 11 = F 10) ∧ (¬ F 13 = 0 → F 11 < F 12)
def t_next : hs_T := fun as S post => match as with
  | [(4, z)] => z = 0 ∧ (0 ≤ S.1 12 ∧ S.1 12 ≤ S.1 10 ∧ S.1 10 ≤ 400) ∧ ∀ F, hs_fr [11, 12, 13, 14] S.1 F → F 10 = S.1 10 → k_next (S.1 12) F → post [] (F, S.2)
  | _ => False
def i_next (S : hs_S) (k : Nat) (F : Nat → Int) (h : Nat) : Prop := match h with
  | 8 => F 10 = S.1 10 ∧ S.1 12 ≤ F 11 ∧ F 11 ≤ F 10 ∧ 5000 + F 10 - F 11 ≤ k
  | 149 => F 10 = S.1 10 ∧ S.1 12 ≤ F 11 ∧ F 11 ≤ F 12 ∧ F 12 ≤ F 10 ∧ (0 ≤ F 13 ∧ F 13 ≤ 3) ∧ (F 13 = 0 → F 11 = F 10) ∧ (F 13 = 3 → F 11 < F 12) ∧ (F 13 = 1 → F 11 < F 12 ∨ (F 12 = F 11 ∧ F 12 < F 10 ∧ 97 ≤ S.2 6 (F 12).toNat ∧ S.2 6 (F 12).toNat ≤ 122)) ∧ (F 13 = 2 → F 12 = F 11 ∧ F 12 < F 10 ∧ 48 ≤ S.2 6 (F 12).toNat ∧ S.2 6 (F 12).toNat ≤ 57) ∧ 2000 + F 10 - F 12 ≤ k
  | _ => F 10 = S.1 10 ∧ S.1 12 ≤ F 11 ∧ F 11 ≤ F 12 ∧ F 12 ≤ F 10 ∧ (0 ≤ F 13 ∧ F 13 ≤ 3) ∧ (F 13 = 0 → F 11 = F 10) ∧ (F 13 = 3 → F 11 < F 12) ∧ (F 13 = 1 → F 11 < F 12) ∧ (F 13 = 2 → F 11 < F 12 ∨ (F 12 = F 11 ∧ F 12 < F 10 ∧ 48 ≤ S.2 6 (F 12).toNat ∧ S.2 6 (F 12).toNat ≤ 57)) ∧ 1000 + F 10 - F 12 ≤ k
theorem c_next : hs_C hs_sh 106 t_next := by
  refine hs_met (nL := 1) (n0 := 120) (n := 120) [] [8, 149, 243] e_3 (by decide +kernel) rfl rfl ?_
  intro as S post h
  unfold t_next at h
  split at h
  · obtain ⟨rfl, h0, h⟩ := h
    refine ⟨Nat.le_of_ble_eq_true rfl, fun hh k g st S' => g = [(0, (4, 0))] ∧ st = [] ∧ ∃ F, S' = (F, S.2) ∧ hs_fr [11, 12, 13, 14] S.1 F ∧ i_next S k F hh, ?_, ?_⟩
    · refine Exists.intro 100000 (Exists.intro [(0, (4, 0))] (And.intro (And.intro rfl (trivial)) (And.intro rfl (And.intro rfl (Exists.intro _ (And.intro rfl (And.intro ?_ ?_)))))))
      · first | exact hs_fr.rf | exact hs_fr.up rfl (hs_fr.rf) | exact hs_fr.up rfl (hs_fr.up rfl (hs_fr.rf)) | exact hs_fr.up rfl (hs_fr.up rfl (hs_fr.up rfl (hs_fr.rf))) | exact hs_fr.up rfl (hs_fr.up rfl (hs_fr.up rfl (hs_fr.up rfl (hs_fr.rf)))) | exact hs_fr.up rfl (hs_fr.up rfl (hs_fr.up rfl (hs_fr.up rfl (hs_fr.up rfl (hs_fr.rf))))) | exact hs_fr.up rfl (hs_fr.up rfl (hs_fr.up rfl (hs_fr.up rfl (hs_fr.up rfl (hs_fr.up rfl (hs_fr.rf))))))
      · repeat' (first | (refine And.intro ?_ ?_) | (intro _))
        all_goals ((try dsimp only at *) <;> (try simp only [hs_up_r, Nat.reduceBEq, cond_true, cond_false, Int.reduceToNat, not_true_eq_false, not_false_eq_true, true_and, and_true] at *) <;> omega)
    · intro hh hm
      simp only [List.mem_cons, List.not_mem_nil, or_false] at hm
      rcases hm with rfl | rfl | rfl
      · intro k g st S' hI
        obtain ⟨rfl, rfl, F, rfl, hF, h1, h2, h3, h4⟩ := hI
        repeat' (first | (refine And.intro ?_ ?_) | (intro _))
        all_goals (try ((try dsimp only at *) <;> (try simp only [hs_up_r, Nat.reduceBEq, cond_true, cond_false, Int.reduceToNat, not_true_eq_false, not_false_eq_true, true_and, and_true] at *) <;> omega))
        all_goals (first | (refine Exists.intro (k - 1) (And.intro ?_ (Exists.intro [(0, (4, 0))] (And.intro (And.intro rfl (trivial)) (And.intro rfl (And.intro rfl (Exists.intro _ (And.intro rfl (And.intro ?_ ?_))))))))) | skip)
        all_goals (try (first | exact hF | exact hs_fr.up rfl (hF) | exact hs_fr.up rfl (hs_fr.up rfl (hF)) | exact hs_fr.up rfl (hs_fr.up rfl (hs_fr.up rfl (hF))) | exact hs_fr.up rfl (hs_fr.up rfl (hs_fr.up rfl (hs_fr.up rfl (hF)))) | exact hs_fr.up rfl (hs_fr.up rfl (hs_fr.up rfl (hs_fr.up rfl (hs_fr.up rfl (hF))))) | exact hs_fr.up rfl (hs_fr.up rfl (hs_fr.up rfl (hs_fr.up rfl (hs_fr.up rfl (hs_fr.up rfl (hF))))))))
        all_goals (repeat' (first | (refine And.intro ?_ ?_) | (intro _)))
        all_goals ((try dsimp only at *) <;> (try simp only [hs_up_r, Nat.reduceBEq, cond_true, cond_false, Int.reduceToNat, not_true_eq_false, not_false_eq_true, true_and, and_true] at *) <;> omega)
      · intro k g st S' hI
        obtain ⟨rfl, rfl, F, rfl, hF, h1, h2, h3, h4, h5, h6, h7, h8, h9, h10⟩ := hI
        repeat' (first | (refine And.intro ?_ ?_) | (intro _))
        all_goals (try ((try dsimp only at *) <;> (try simp only [hs_up_r, Nat.reduceBEq, cond_true, cond_false, Int.reduceToNat, not_true_eq_false, not_false_eq_true, true_and, and_true] at *) <;> omega))
        all_goals (first | (refine Exists.intro (k - 1) (And.intro ?_ (Exists.intro [(0, (4, 0))] (And.intro (And.intro rfl (trivial)) (And.intro rfl (And.intro rfl (Exists.intro _ (And.intro rfl (And.intro ?_ ?_))))))))) | skip)
        all_goals (try (first | exact hF | exact hs_fr.up rfl (hF) | exact hs_fr.up rfl (hs_fr.up rfl (hF)) | exact hs_fr.up rfl (hs_fr.up rfl (hs_fr.up rfl (hF))) | exact hs_fr.up rfl (hs_fr.up rfl (hs_fr.up rfl (hs_fr.up rfl (hF)))) | exact hs_fr.up rfl (hs_fr.up rfl (hs_fr.up rfl (hs_fr.up rfl (hs_fr.up rfl (hF))))) | exact hs_fr.up rfl (hs_fr.up rfl (hs_fr.up rfl (hs_fr.up rfl (hs_fr.up rfl (hs_fr.up rfl (hF))))))))
        all_goals (repeat' (first | (refine And.intro ?_ ?_) | (intro _)))
        all_goals ((try dsimp only at *) <;> (try simp only [hs_up_r, Nat.reduceBEq, cond_true, cond_false, Int.reduceToNat, not_true_eq_false, not_false_eq_true, true_and, and_true] at *) <;> omega)
      · intro k g st S' hI
        obtain ⟨rfl, rfl, F, rfl, hF, h1, h2, h3, h4, h5, h6, h7, h8, h9, h10⟩ := hI
        repeat' (first | (refine And.intro ?_ ?_) | (intro _))
        all_goals (try ((try dsimp only at *) <;> (try simp only [hs_up_r, Nat.reduceBEq, cond_true, cond_false, Int.reduceToNat, not_true_eq_false, not_false_eq_true, true_and, and_true] at *) <;> omega))
        all_goals (first | (refine Exists.intro (k - 1) (And.intro ?_ (Exists.intro [(0, (4, 0))] (And.intro (And.intro rfl (trivial)) (And.intro rfl (And.intro rfl (Exists.intro _ (And.intro rfl (And.intro ?_ ?_))))))))) | skip)
        all_goals (try (first | exact hF | exact hs_fr.up rfl (hF) | exact hs_fr.up rfl (hs_fr.up rfl (hF)) | exact hs_fr.up rfl (hs_fr.up rfl (hs_fr.up rfl (hF))) | exact hs_fr.up rfl (hs_fr.up rfl (hs_fr.up rfl (hs_fr.up rfl (hF)))) | exact hs_fr.up rfl (hs_fr.up rfl (hs_fr.up rfl (hs_fr.up rfl (hs_fr.up rfl (hF))))) | exact hs_fr.up rfl (hs_fr.up rfl (hs_fr.up rfl (hs_fr.up rfl (hs_fr.up rfl (hs_fr.up rfl (hF))))))))
        all_goals (try (refine h _ hF ?_ ?_))
        all_goals (repeat' (first | (refine And.intro ?_ ?_) | (intro _)))
        all_goals ((try dsimp only at *) <;> (try simp only [hs_up_r, Nat.reduceBEq, cond_true, cond_false, Int.reduceToNat, not_true_eq_false, not_false_eq_true, true_and, and_true] at *) <;> omega)
  · cases h

/-! ===== the reference: texts in force ===== -/
def bz (A : Nat → Nat → Int) (k n : Nat) : Prop := ∀ i, i < n → A k i = 0 ∨ A k i = 1
theorem bz.put {A : Nat → Nat → Int} {k n j i : Nat} {v : Int} (h : bz A k n) (hv : v = 0 ∨ v = 1) : bz (hs_ua A j i v) k n := fun m hm => by
  by_cases e : k = j
  · subst e
    rw [hs_ua_k]
    by_cases e2 : m = i
    · rw [if_pos e2]; exact hv
    · rw [if_neg e2]; exact h m hm
  · rw [hs_ua_ne e]; exact h m hm
def fi (S : hs_S) (A : Nat → Nat → Int) : Prop := (∀ k, ¬ k = 12 → ¬ k = 13 → A k = S.2 k) ∧ bz A 12 20 ∧ bz A 13 240
theorem fi.put {S : hs_S} {A : Nat → Nat → Int} {j i : Nat} {v : Int} (h : fi S A) (hj : j = 12 ∨ j = 13) (hv : v = 0 ∨ v = 1) : fi S (hs_ua A j i v) := ⟨fun k h1 h2 => by rw [hs_ua_ne (by omega)]; exact h.1 k h1 h2, h.2.1.put hv, h.2.2.put hv⟩
theorem ro_txt {R : Nat → Int} (h : ro R) {t c : Int} (ht : 0 ≤ t ∧ t < 20) (hc : 0 ≤ c ∧ c < 12) (hn : c < R (5056 + 898 * t + 1).toNat) : (0 ≤ R (5056 + 898 * t + 2 + 8 * c + 1).toNat ∧ R (5056 + 898 * t + 2 + 8 * c + 1).toNat ≤ 19) ∧ (0 ≤ R (5056 + 898 * t + 2 + 8 * c + 2).toNat ∧ R (5056 + 898 * t + 2 + 8 * c + 2).toNat ≤ 11) ∧ rt_seg (rt_op (fun k => R (5056 + k)) t.toNat) (rt_ar (fun k => R (5056 + k)) t.toNat) (R (5056 + 898 * t + 2 + 8 * c + 3).toNat) (R (5056 + 898 * t + 2 + 8 * c + 4).toNat) ∧ rt_seg (rt_op (fun k => R (5056 + k)) t.toNat) (rt_ar (fun k => R (5056 + k)) t.toNat) (R (5056 + 898 * t + 2 + 8 * c + 5).toNat) (R (5056 + 898 * t + 2 + 8 * c + 6).toNat) := by
  have q := h.2.2.2.2.2.2 t.toNat c.toNat (by omega) (by omega) (by
    show (c.toNat : Int) < R (5056 + (898 * t.toNat + 1))
    rw [show 5056 + (898 * t.toNat + 1) = (5056 + 898 * t + 1).toNat by omega]
    omega)
  have e : ∀ m : Nat, m < 8 → (5056 + 898 * t + 2 + 8 * c + (m : Int)).toNat = 5056 + (898 * t.toNat + 2 + 8 * c.toNat + m) := fun m hm => by omega
  have e1 := e 1 (by decide)
  have e2 := e 2 (by decide)
  have e3 := e 3 (by decide)
  have e4 := e 4 (by decide)
  have e5 := e 5 (by decide)
  have e6 := e 6 (by decide)
  obtain ⟨q1, q2, q3, q4, q5, q6⟩ := q
  refine ⟨⟨?_, ?_⟩, ⟨?_, ?_⟩, ?_, ?_⟩
  · rw [show (5056 + 898 * t + 2 + 8 * c + 1).toNat = 5056 + (898 * t.toNat + 2 + 8 * c.toNat + 1) from e1]; exact q1
  · rw [show (5056 + 898 * t + 2 + 8 * c + 1).toNat = 5056 + (898 * t.toNat + 2 + 8 * c.toNat + 1) from e1]; exact q2
  · rw [show (5056 + 898 * t + 2 + 8 * c + 2).toNat = 5056 + (898 * t.toNat + 2 + 8 * c.toNat + 2) from e2]; exact q3
  · rw [show (5056 + 898 * t + 2 + 8 * c + 2).toNat = 5056 + (898 * t.toNat + 2 + 8 * c.toNat + 2) from e2]; exact q4
  · rw [show (5056 + 898 * t + 2 + 8 * c + 3).toNat = 5056 + (898 * t.toNat + 2 + 8 * c.toNat + 3) from e3, show (5056 + 898 * t + 2 + 8 * c + 4).toNat = 5056 + (898 * t.toNat + 2 + 8 * c.toNat + 4) from e4]; exact q5
  · rw [show (5056 + 898 * t + 2 + 8 * c + 5).toNat = 5056 + (898 * t.toNat + 2 + 8 * c.toNat + 5) from e5, show (5056 + 898 * t + 2 + 8 * c + 6).toNat = 5056 + (898 * t.toNat + 2 + 8 * c.toNat + 6) from e6]; exact q6
theorem ro_n {R : Nat → Int} (h : ro R) {t : Int} (ht : 0 ≤ t ∧ t < 20) : 0 ≤ R (5056 + 898 * t + 1).toNat ∧ R (5056 + 898 * t + 1).toNat ≤ 12 := by
  rw [show (5056 + 898 * t + 1).toNat = 5057 + 898 * t.toNat by omega]
  exact h.2.2.2.2.2.1 t.toNat (by omega)
def t_findForce : hs_T := fun as S post => match as with
  | [(4, z), (0, _)] => z = 0 ∧ hs_o (ro (S.2 1)) ∧ hs_o (fi S S.2) ∧ ∀ A, fi S A → post [] (S.1, A)
  | _ => False
theorem c_findForce : hs_C hs_sh 57 t_findForce := by
  refine hs_met (nL := 5) (n0 := 60) (n := 120) [] [2, 31, 61] e_3 (by decide +kernel) rfl rfl ?_
  intro as S post h
  unfold t_findForce at h
  split at h
  · rename_i z day
    obtain ⟨rfl, ⟨-, hro⟩, ⟨-, hfi⟩, hp⟩ := h
    refine ⟨Nat.le_of_ble_eq_true rfl, fun hh k g st S' => st = [] ∧ ∃ A, S' = (S.1, A) ∧ fi S A ∧ ((hh = 2 ∧ ∃ i : Int, g = [(0, (4, 0)), (1, (0, day)), (2, (0, i))] ∧ (0 ≤ i ∧ i ≤ 240) ∧ 10000 - i ≤ k) ∨ (hh = 31 ∧ ∃ t : Int, g = [(0, (4, 0)), (1, (0, day)), (2, (0, t))] ∧ (-1 ≤ t ∧ t < S.2 1 2) ∧ 100 * (t + 1) ≤ k) ∨ (hh = 61 ∧ ∃ t c : Int, g = [(0, (4, 0)), (1, (0, day)), (2, (0, t)), (3, (0, c))] ∧ (0 ≤ t ∧ t < S.2 1 2) ∧ (0 ≤ c ∧ c ≤ 12) ∧ 100 * t + 50 - c ≤ k)), ?_, ?_⟩
    · refine Exists.intro 100000 (Exists.intro [(0, (4, 0)), (1, (0, day)), (2, (0, _))] (And.intro (And.intro rfl (And.intro rfl (And.intro rfl (trivial)))) (And.intro rfl (Exists.intro _ (And.intro rfl (And.intro ?_ (Or.inl (And.intro rfl (Exists.intro _ (And.intro rfl (And.intro ?_ ?_))))))))))) <;> (first | omega | (dsimp only at *; omega) | (first | assumption | exact hfi.put (Or.inl rfl) (Or.inl rfl) | exact hfi.put (Or.inl rfl) (Or.inr rfl) | exact hfi.put (Or.inr rfl) (Or.inl rfl) | exact hfi.put (Or.inr rfl) (Or.inr rfl)) | ((try dsimp only at *) <;> (try simp only [hs_up_r, Nat.reduceBEq, cond_true, cond_false, Int.reduceToNat, not_true_eq_false, not_false_eq_true, true_and, and_true] at *) <;> omega))
    · intro hh hm
      simp only [List.mem_cons, List.not_mem_nil, or_false] at hm
      rcases hm with rfl | rfl | rfl
      · intro k g st S' hI
        obtain ⟨rfl, A, rfl, hfi, ⟨-, i, rfl, hi, hk⟩ | ⟨e, -⟩ | ⟨e, -⟩⟩ := hI
        rotate_left
        · exact absurd e (by decide)
        · exact absurd e (by decide)
        have e1 : A 1 = S.2 1 := hfi.1 1 (by decide) (by decide)
        have e2 : A 1 2 = S.2 1 2 := by rw [e1]
        have hroA : ro (A 1) := by rw [e1]; exact hro
        have hT : 0 ≤ A 1 2 ∧ A 1 2 ≤ 20 := hroA.1.2.2.1
        clear hro hroA hp
        repeat' (first | (refine And.intro ?_ ?_) | (intro _))
        all_goals (first | omega | (dsimp only at *; omega) | ((try dsimp only at *) <;> (try simp only [hs_up_r, Nat.reduceBEq, cond_true, cond_false, Int.reduceToNat, not_true_eq_false, not_false_eq_true, true_and, and_true] at *) <;> omega) | (refine Exists.intro (k - 1) (And.intro ?_ (Exists.intro [(0, (4, 0)), (1, (0, day)), (2, (0, _))] (And.intro (And.intro rfl (And.intro rfl (And.intro rfl (trivial)))) (And.intro rfl (Exists.intro _ (And.intro rfl (And.intro ?_ (Or.inl (And.intro rfl (Exists.intro _ (And.intro rfl (And.intro ?_ ?_)))))))))))) <;> (first | omega | (dsimp only at *; omega) | (first | assumption | exact hfi.put (Or.inl rfl) (Or.inl rfl) | exact hfi.put (Or.inl rfl) (Or.inr rfl) | exact hfi.put (Or.inr rfl) (Or.inl rfl) | exact hfi.put (Or.inr rfl) (Or.inr rfl)) | ((try dsimp only at *) <;> (try simp only [hs_up_r, Nat.reduceBEq, cond_true, cond_false, Int.reduceToNat, not_true_eq_false, not_false_eq_true, true_and, and_true] at *) <;> omega))) | (refine Exists.intro (k - 1) (And.intro ?_ (Exists.intro [(0, (4, 0)), (1, (0, day)), (2, (0, _))] (And.intro (And.intro rfl (And.intro rfl (And.intro rfl (trivial)))) (And.intro rfl (Exists.intro _ (And.intro rfl (And.intro ?_ (Or.inr (Or.inl (And.intro rfl (Exists.intro _ (And.intro rfl (And.intro ?_ ?_))))))))))))) <;> (first | omega | (dsimp only at *; omega) | (first | assumption | exact hfi.put (Or.inl rfl) (Or.inl rfl) | exact hfi.put (Or.inl rfl) (Or.inr rfl) | exact hfi.put (Or.inr rfl) (Or.inl rfl) | exact hfi.put (Or.inr rfl) (Or.inr rfl)) | ((try dsimp only at *) <;> (try simp only [hs_up_r, Nat.reduceBEq, cond_true, cond_false, Int.reduceToNat, not_true_eq_false, not_false_eq_true, true_and, and_true] at *) <;> omega))))
      · intro k g st S' hI
        obtain ⟨rfl, A, rfl, hfi, ⟨e, -⟩ | ⟨-, t, rfl, ht, hk⟩ | ⟨e, -⟩⟩ := hI
        · exact absurd e (by decide)
        rotate_left
        · exact absurd e (by decide)
        have e1 : A 1 = S.2 1 := hfi.1 1 (by decide) (by decide)
        have e2 : A 1 2 = S.2 1 2 := by rw [e1]
        have hroA : ro (A 1) := by rw [e1]; exact hro
        have hT : 0 ≤ A 1 2 ∧ A 1 2 ≤ 20 := hroA.1.2.2.1
        have KP : post [] (S.1, A) := hp A hfi
        clear hro hroA hp
        repeat' (first | (refine And.intro ?_ ?_) | (intro _))
        all_goals (first | omega | (dsimp only at *; omega) | exact KP | ((try dsimp only at *) <;> (try simp only [hs_up_r, Nat.reduceBEq, cond_true, cond_false, Int.reduceToNat, not_true_eq_false, not_false_eq_true, true_and, and_true] at *) <;> omega) | (refine Exists.intro (k - 1) (And.intro ?_ (Exists.intro [(0, (4, 0)), (1, (0, day)), (2, (0, _)), (3, (0, _))] (And.intro (And.intro rfl (And.intro rfl (And.intro rfl (And.intro rfl (trivial))))) (And.intro rfl (Exists.intro _ (And.intro rfl (And.intro ?_ (Or.inr (Or.inr (And.intro rfl (Exists.intro _ (Exists.intro _ (And.intro rfl (And.intro ?_ (And.intro ?_ ?_))))))))))))))) <;> (first | omega | (dsimp only at *; omega) | (first | assumption | exact hfi.put (Or.inl rfl) (Or.inl rfl) | exact hfi.put (Or.inl rfl) (Or.inr rfl) | exact hfi.put (Or.inr rfl) (Or.inl rfl) | exact hfi.put (Or.inr rfl) (Or.inr rfl)) | ((try dsimp only at *) <;> (try simp only [hs_up_r, Nat.reduceBEq, cond_true, cond_false, Int.reduceToNat, not_true_eq_false, not_false_eq_true, true_and, and_true] at *) <;> omega))))
      · intro k g st S' hI
        obtain ⟨rfl, A, rfl, hfi, ⟨e, -⟩ | ⟨e, -⟩ | ⟨-, t, c, rfl, ht, hc, hk⟩⟩ := hI
        · exact absurd e (by decide)
        · exact absurd e (by decide)
        have e1 : A 1 = S.2 1 := hfi.1 1 (by decide) (by decide)
        have e2 : A 1 2 = S.2 1 2 := by rw [e1]
        have hroA : ro (A 1) := by rw [e1]; exact hro
        have hT : 0 ≤ A 1 2 ∧ A 1 2 ≤ 20 := hroA.1.2.2.1
        have hN := ro_n hroA (t := t) (by omega)
        have hX : c < A 1 (5056 + 898 * t + 1).toNat → (0 ≤ A 1 (5056 + 898 * t + 2 + 8 * c + 1).toNat ∧ A 1 (5056 + 898 * t + 2 + 8 * c + 1).toNat ≤ 19) ∧ (0 ≤ A 1 (5056 + 898 * t + 2 + 8 * c + 2).toNat ∧ A 1 (5056 + 898 * t + 2 + 8 * c + 2).toNat ≤ 11) := fun h => by
          obtain ⟨q1, q2, -⟩ := ro_txt hroA (t := t) (c := c) (by omega) (by omega) h
          exact ⟨q1, q2⟩
        clear hro hroA hp
        repeat' (first | (refine And.intro ?_ ?_) | (intro _))
        all_goals (first | omega | (dsimp only at *; omega) | ((try dsimp only at *) <;> (try simp only [hs_up_r, Nat.reduceBEq, cond_true, cond_false, Int.reduceToNat, not_true_eq_false, not_false_eq_true, true_and, and_true] at *) <;> omega) | (refine Exists.intro (k - 1) (And.intro ?_ (Exists.intro [(0, (4, 0)), (1, (0, day)), (2, (0, _)), (3, (0, _))] (And.intro (And.intro rfl (And.intro rfl (And.intro rfl (And.intro rfl (trivial))))) (And.intro rfl (Exists.intro _ (And.intro rfl (And.intro ?_ (Or.inr (Or.inr (And.intro rfl (Exists.intro _ (Exists.intro _ (And.intro rfl (And.intro ?_ (And.intro ?_ ?_))))))))))))))) <;> (first | omega | (dsimp only at *; omega) | (first | assumption | exact hfi.put (Or.inl rfl) (Or.inl rfl) | exact hfi.put (Or.inl rfl) (Or.inr rfl) | exact hfi.put (Or.inr rfl) (Or.inl rfl) | exact hfi.put (Or.inr rfl) (Or.inr rfl)) | ((try dsimp only at *) <;> (try simp only [hs_up_r, Nat.reduceBEq, cond_true, cond_false, Int.reduceToNat, not_true_eq_false, not_false_eq_true, true_and, and_true] at *) <;> omega))) | (refine Exists.intro (k - 1) (And.intro ?_ (Exists.intro [(0, (4, 0)), (1, (0, day)), (2, (0, _))] (And.intro (And.intro rfl (And.intro rfl (And.intro rfl (trivial)))) (And.intro rfl (Exists.intro _ (And.intro rfl (And.intro ?_ (Or.inr (Or.inl (And.intro rfl (Exists.intro _ (And.intro rfl (And.intro ?_ ?_))))))))))))) <;> (first | omega | (dsimp only at *; omega) | (first | assumption | exact hfi.put (Or.inl rfl) (Or.inl rfl) | exact hfi.put (Or.inl rfl) (Or.inr rfl) | exact hfi.put (Or.inr rfl) (Or.inl rfl) | exact hfi.put (Or.inr rfl) (Or.inr rfl)) | ((try dsimp only at *) <;> (try simp only [hs_up_r, Nat.reduceBEq, cond_true, cond_false, Int.reduceToNat, not_true_eq_false, not_false_eq_true, true_and, and_true] at *) <;> omega))))
  · cases h

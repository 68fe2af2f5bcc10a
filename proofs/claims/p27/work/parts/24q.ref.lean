/-! ===== the reference: finding a clause ===== -/
theorem rq3.tr {S : hs_S} {F F' : Nat → Int} {A A' : Nat → Nat → Int} (h : rq3 S F A) (h' : rq3 (F, A) F' A') : rq3 S F' A' := ⟨hs_fr.tr h.1 h'.1, h'.2.1, fun k hk => (h'.2.2 k hk).trans (h.2.2 k hk)⟩
def rq4 (S : hs_S) (F : Nat → Int) (A : Nat → Nat → Int) : Prop := hs_fr [31, 32, 33] S.1 F ∧ (F 31 = 0 ∨ F 31 = 1) ∧ ra S A
theorem rq4.tr {S : hs_S} {F F' : Nat → Int} {A A' : Nat → Nat → Int} (h : rq4 S F A) (h' : rq4 (F, A) F' A') : rq4 S F' A' := ⟨hs_fr.tr h.1 h'.1, h'.2.1, fun k hk => (h'.2.2 k hk).trans (h.2.2 k hk)⟩
theorem rq4.of {S : hs_S} {F : Nat → Int} {A : Nat → Nat → Int} (h : rq3 S F A) : rq4 S F A := ⟨hs_fr.wk rfl h.1, h.2.1, h.2.2⟩
theorem rq4.up {S : hs_S} {F : Nat → Int} {A : Nat → Nat → Int} {v : Int} (h : rq4 S F A) : rq4 S (hs_up F 33 v) A := ⟨hs_fr.up rfl h.1, h.2.1, h.2.2⟩
def t_isSo : hs_T := fun as S post => match as with
  | [(4, z), (0, t), (0, p)] => z = 0 ∧ (0 ≤ t ∧ t < 20) ∧ (0 ≤ p ∧ p ≤ 23000) ∧ hs_o (rt_seg (rt_op (fun k => S.2 1 (5056 + k)) t.toNat) (rt_ar (fun k => S.2 1 (5056 + k)) t.toNat) (S.2 1 (p + 5).toNat) (S.2 1 (p + 6).toNat)) ∧ hs_o (rt_seg (rt_op (fun k => S.2 1 (5056 + k)) t.toNat) (rt_ar (fun k => S.2 1 (5056 + k)) t.toNat) (S.2 1 (p + 3).toNat) (S.2 1 (p + 4).toNat)) ∧ ∀ w F A, (w = 0 ∨ w = 1) → rq4 S F A → post [(0, w)] (F, A)
  | _ => False
theorem c_isSo : hs_C hs_sh 87 t_isSo := by
  refine hs_met0 (nL := 3) (n0 := 90) [] e_16 (by decide +kernel) rfl rfl ?_
  intro as S post h
  unfold t_isSo at h
  split at h
  · rename_i z t p
    obtain ⟨rfl, ht, hpp, ⟨-, h1⟩, ⟨-, h2⟩, hp⟩ := h
    have G1 : ∀ F A, rq3 S F A → hs_o (rt_seg (rt_op (fun k => A 1 (5056 + k)) t.toNat) (rt_ar (fun k => A 1 (5056 + k)) t.toNat) (A 1 (p + 3).toNat) (A 1 (p + 4).toNat)) := fun F A hA => hs_o.of (by rw [show A 1 = S.2 1 from hA.2.2 1 (by decide)]; exact h2)
    have G0 : hs_o (rt_seg (rt_op (fun k => S.2 1 (5056 + k)) t.toNat) (rt_ar (fun k => S.2 1 (5056 + k)) t.toNat) (S.2 1 (p + 5).toNat) (S.2 1 (p + 6).toNat)) := hs_o.of h1
    have G2 := hs_o.of h2
    have K1 : ∀ F A v w, (w = 0 ∨ w = 1) → rq3 S F A → post [(0, w)] (hs_up F 33 v, A) := fun F A v w hw h => hp _ _ _ hw (rq4.of h).up
    have K2 : ∀ F A v w F' A', (w = 0 ∨ w = 1) → rq3 S F A → rq3 (F, A) F' A' → post [(0, w)] (hs_up F' 33 v, A') := fun F A v w F' A' hw h h' => hp _ _ _ hw (rq4.of (h.tr h')).up
    have K3 : ∀ F A w, (w = 0 ∨ w = 1) → rq3 S F A → post [(0, w)] (F, A) := fun F A w hw h => hp _ _ _ hw (rq4.of h)
    clear h1 h2 hp
    refine ⟨Nat.le_of_ble_eq_true rfl, ?_⟩
    repeat' (first | (refine And.intro ?_ ?_) | (intro _))
    all_goals (first | omega | exact G0 | exact G2 | exact G1 _ _ ‹_› | exact K1 _ _ _ _ (Or.inl rfl) ‹_› | exact K1 _ _ _ _ (Or.inr rfl) ‹_› | exact K2 _ _ _ _ _ _ (Or.inl rfl) ‹_› ‹_› | exact K2 _ _ _ _ _ _ (Or.inr rfl) ‹_› ‹_› | exact K3 _ _ _ (Or.inl rfl) ‹_› | exact K3 _ _ _ (Or.inr rfl) ‹_› | ((try dsimp only at *) <;> (try simp only [hs_up_r, Nat.reduceBEq, cond_true, cond_false, Int.reduceToNat, not_true_eq_false, not_false_eq_true, true_and, and_true] at *) <;> omega))
  · cases h
def E_17 : hs_E := hs_ad E_16 87 t_isSo
theorem e_17 : ∀ K, hs_C hs_sh K (E_17 K) := hs_ad_ok e_16 c_isSo
def t_find : hs_T := fun as S post => match as with
  | [(4, z), (0, x), (0, y)] => z = 0 ∧ hs_o (ro (S.2 1)) ∧ hs_o (S.1 31 = 0 ∨ S.1 31 = 1) ∧ ∀ w F A, (w = 0 ∨ w = 1) → rq4 S F A → post [(0, w)] (F, A)
  | _ => False
theorem c_find : hs_C hs_sh 56 t_find := by
  refine hs_met (nL := 10) (n0 := 60) (n := 120) [] [8, 22] e_17 (by decide +kernel) rfl rfl ?_
  intro as S post h
  unfold t_find at h
  split at h
  · rename_i z x y
    obtain ⟨rfl, ⟨-, hro⟩, ⟨-, h31⟩, hp⟩ := h
    have h4 : rq4 S S.1 S.2 := ⟨hs_fr.rf, h31, fun _ _ => rfl⟩
    refine ⟨Nat.le_of_ble_eq_true rfl, fun hh k g st S' => st = [] ∧ ∃ F A u, S' = (F, A) ∧ rq4 S F A ∧ (u = 0 ∨ u = 1) ∧ ((hh = 8 ∧ ∃ s t : Int, g = [(0, (4, 0)), (1, (0, x)), (2, (0, y)), (3, (0, u)), (4, (1, s)), (6, (0, t))] ∧ (0 ≤ t ∧ t ≤ 20) ∧ 1000 * (20 - t) + 500 ≤ k) ∨ (hh = 22 ∧ ∃ s t c : Int, g = [(0, (4, 0)), (1, (0, x)), (2, (0, y)), (3, (0, u)), (4, (1, s)), (6, (0, t)), (7, (0, c))] ∧ (0 ≤ t ∧ t < S.2 1 2) ∧ (0 ≤ c ∧ c ≤ 12) ∧ 1000 * (20 - t) + 400 - c ≤ k)), ?_, ?_⟩
    · refine Exists.intro 100000 (Exists.intro [(0, (4, 0)), (1, (0, x)), (2, (0, y)), (3, (0, _)), (4, (1, _)), (6, (0, _))] (And.intro (And.intro rfl (And.intro rfl (And.intro rfl (And.intro rfl (And.intro rfl (And.intro rfl (trivial))))))) (And.intro rfl (Exists.intro _ (Exists.intro _ (Exists.intro _ (And.intro rfl (And.intro ?_ (And.intro ?_ (Or.inl (And.intro rfl (Exists.intro _ (Exists.intro _ (And.intro rfl (And.intro ?_ ?_))))))))))))))) <;> (first | exact Or.inl rfl | exact Or.inr rfl | assumption | omega | exact h4.tr ‹_› | (dsimp only at *; omega) | ((try dsimp only at *) <;> (try simp only [hs_up_r, Nat.reduceBEq, cond_true, cond_false, Int.reduceToNat, not_true_eq_false, not_false_eq_true, true_and, and_true] at *) <;> omega))
    · intro hh hm
      simp only [List.mem_cons, List.not_mem_nil, or_false] at hm
      rcases hm with rfl | rfl
      · intro k g st S' hI
        obtain ⟨rfl, F, A, u, rfl, h4, hu, ⟨-, s, t, rfl, ht, hk⟩ | ⟨e, -⟩⟩ := hI
        rotate_left
        · exact absurd e (by decide)
        have e1 : A 1 = S.2 1 := h4.2.2 1 (by decide)
        have e2 : A 1 2 = S.2 1 2 := by rw [e1]
        have hroA : ro (A 1) := by rw [e1]; exact hro
        have hT : 0 ≤ A 1 2 ∧ A 1 2 ≤ 20 := hroA.1.2.2.1
        have KP : ∀ v, post [(0, u)] (hs_up F 33 v, A) := fun v => hp _ _ _ hu h4.up
        clear hro hroA hp
        repeat' (first | (refine And.intro ?_ ?_) | (intro _))
        all_goals (first | omega | (dsimp only at *; omega) | exact KP _ | ((try dsimp only at *) <;> (try simp only [hs_up_r, Nat.reduceBEq, cond_true, cond_false, Int.reduceToNat, not_true_eq_false, not_false_eq_true, true_and, and_true] at *) <;> omega) | (refine Exists.intro (k - 1) (And.intro ?_ (Exists.intro [(0, (4, 0)), (1, (0, x)), (2, (0, y)), (3, (0, _)), (4, (1, _)), (6, (0, _)), (7, (0, _))] (And.intro (And.intro rfl (And.intro rfl (And.intro rfl (And.intro rfl (And.intro rfl (And.intro rfl (And.intro rfl (trivial)))))))) (And.intro rfl (Exists.intro _ (Exists.intro _ (Exists.intro _ (And.intro rfl (And.intro ?_ (And.intro ?_ (Or.inr (And.intro rfl (Exists.intro _ (Exists.intro _ (Exists.intro _ (And.intro rfl (And.intro ?_ (And.intro ?_ ?_)))))))))))))))))) <;> (first | exact Or.inl rfl | exact Or.inr rfl | assumption | omega | exact h4.tr ‹_› | (dsimp only at *; omega) | ((try dsimp only at *) <;> (try simp only [hs_up_r, Nat.reduceBEq, cond_true, cond_false, Int.reduceToNat, not_true_eq_false, not_false_eq_true, true_and, and_true] at *) <;> omega))))
      · intro k g st S' hI
        obtain ⟨rfl, F, A, u, rfl, h4, hu, ⟨e, -⟩ | ⟨-, s, t, c, rfl, ht, hc, hk⟩⟩ := hI
        · exact absurd e (by decide)
        have e1 : A 1 = S.2 1 := h4.2.2 1 (by decide)
        have e2 : A 1 2 = S.2 1 2 := by rw [e1]
        have hroA : ro (A 1) := by rw [e1]; exact hro
        have hT : 0 ≤ A 1 2 ∧ A 1 2 ≤ 20 := hroA.1.2.2.1
        have hN := ro_n hroA (t := t) (by omega)
        have G0 : ¬ A 1 (5056 + 898 * t + 1).toNat ≤ c → hs_o (rt_seg (rt_op (fun k => A 1 (5056 + k)) t.toNat) (rt_ar (fun k => A 1 (5056 + k)) t.toNat) (A 1 (5056 + 898 * t + 2 + 8 * c + 5).toNat) (A 1 (5056 + 898 * t + 2 + 8 * c + 6).toNat)) := fun h => hs_o.of (ro_txt hroA (t := t) (c := c) (by omega) (by omega) (by omega)).2.2.2
        have G1 : ¬ A 1 (5056 + 898 * t + 1).toNat ≤ c → hs_o (rt_seg (rt_op (fun k => A 1 (5056 + k)) t.toNat) (rt_ar (fun k => A 1 (5056 + k)) t.toNat) (A 1 (5056 + 898 * t + 2 + 8 * c + 3).toNat) (A 1 (5056 + 898 * t + 2 + 8 * c + 4).toNat)) := fun h => hs_o.of (ro_txt hroA (t := t) (c := c) (by omega) (by omega) (by omega)).2.2.1
        clear hro hroA hp
        repeat' (first | (refine And.intro ?_ ?_) | (intro _))
        all_goals (first | omega | exact G0 ‹_› | exact G1 ‹_› | (dsimp only at *; omega) | ((try dsimp only at *) <;> (try simp only [hs_up_r, Nat.reduceBEq, cond_true, cond_false, Int.reduceToNat, not_true_eq_false, not_false_eq_true, true_and, and_true] at *) <;> omega) | (refine Exists.intro (k - 1) (And.intro ?_ (Exists.intro [(0, (4, 0)), (1, (0, x)), (2, (0, y)), (3, (0, _)), (4, (1, _)), (6, (0, _)), (7, (0, _))] (And.intro (And.intro rfl (And.intro rfl (And.intro rfl (And.intro rfl (And.intro rfl (And.intro rfl (And.intro rfl (trivial)))))))) (And.intro rfl (Exists.intro _ (Exists.intro _ (Exists.intro _ (And.intro rfl (And.intro ?_ (And.intro ?_ (Or.inr (And.intro rfl (Exists.intro _ (Exists.intro _ (Exists.intro _ (And.intro rfl (And.intro ?_ (And.intro ?_ ?_)))))))))))))))))) <;> (first | exact Or.inl rfl | exact Or.inr rfl | assumption | omega | exact h4.tr ‹_› | (dsimp only at *; omega) | ((try dsimp only at *) <;> (try simp only [hs_up_r, Nat.reduceBEq, cond_true, cond_false, Int.reduceToNat, not_true_eq_false, not_false_eq_true, true_and, and_true] at *) <;> omega))) | (refine Exists.intro (k - 1) (And.intro ?_ (Exists.intro [(0, (4, 0)), (1, (0, x)), (2, (0, y)), (3, (0, _)), (4, (1, _)), (6, (0, _))] (And.intro (And.intro rfl (And.intro rfl (And.intro rfl (And.intro rfl (And.intro rfl (And.intro rfl (trivial))))))) (And.intro rfl (Exists.intro _ (Exists.intro _ (Exists.intro _ (And.intro rfl (And.intro ?_ (And.intro ?_ (Or.inl (And.intro rfl (Exists.intro _ (Exists.intro _ (And.intro rfl (And.intro ?_ ?_)))))))))))))))) <;> (first | exact Or.inl rfl | exact Or.inr rfl | assumption | omega | exact h4.tr ‹_› | (dsimp only at *; omega) | ((try dsimp only at *) <;> (try simp only [hs_up_r, Nat.reduceBEq, cond_true, cond_false, Int.reduceToNat, not_true_eq_false, not_false_eq_true, true_and, and_true] at *) <;> omega))))
  · cases h
def E_18 : hs_E := hs_ad E_17 56 t_find
theorem e_18 : ∀ K, hs_C hs_sh K (E_18 K) := hs_ad_ok e_17 c_find

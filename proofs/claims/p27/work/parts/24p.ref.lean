/-! ===== the reference: code is run ===== -/
def t_reckon : hs_T := fun as S post => match as with
  | [(4, z), (0, _), (1, _), (1, _)] => z = 0 ∧ (∀ v, post [(1, v)] S) ∧ (∀ v w, (w = 0 ∨ w = 1) → post [(1, v)] (hs_up S.1 31 w, S.2))
  | _ => False
theorem c_reckon : hs_C hs_sh 127 t_reckon := by
  refine hs_met0 (nL := 6) (n0 := 80) [] e_3 (by decide +kernel) rfl rfl ?_
  intro as S post h
  unfold t_reckon at h
  split at h
  · obtain ⟨rfl, p1, p2⟩ := h
    refine ⟨Nat.le_of_ble_eq_true rfl, ?_⟩
    repeat' (first | (refine And.intro ?_ ?_) | (intro _))
    all_goals (first | omega | ((try dsimp only at *) <;> (try simp only [hs_up_r, Nat.reduceBEq, cond_true, cond_false, Int.reduceToNat, not_true_eq_false, not_false_eq_true, true_and, and_true] at *) <;> omega) | (exact trivial) | (exact Or.inl rfl) | (exact Or.inr rfl) | (exact p1 _) | (exact p2 _ _ (Or.inl rfl)) | (exact p2 _ _ (Or.inr rfl)) | (exact Or.inl rfl) | (exact Or.inr rfl) | (refine p2 _ _ ?_ <;> ((try dsimp only at *) <;> (try simp only [hs_up_r, Nat.reduceBEq, cond_true, cond_false, Int.reduceToNat, not_true_eq_false, not_false_eq_true, true_and, and_true] at *) <;> omega)))
  · cases h
def E_15 : hs_E := hs_ad E_3 127 t_reckon
theorem e_15 : ∀ K, hs_C hs_sh K (E_15 K) := hs_ad_ok e_3 c_reckon
def ra (S : hs_S) (A : Nat → Nat → Int) : Prop := ∀ k, ¬ k = 15 → A k = S.2 k
theorem ra.put {S : hs_S} {A : Nat → Nat → Int} {i : Nat} {v : Int} (h : ra S A) : ra S (hs_ua A 15 i v) := fun k hk => by rw [hs_ua_ne hk]; exact h k hk
def rq3 (S : hs_S) (F : Nat → Int) (A : Nat → Nat → Int) : Prop := hs_fr [31, 32] S.1 F ∧ (F 31 = 0 ∨ F 31 = 1) ∧ ra S A
def t_run : hs_T := fun as S post => match as with
  | [(4, z), (0, t), (0, a), (0, b)] => z = 0 ∧ (0 ≤ t ∧ t < 20) ∧ hs_o (rt_seg (rt_op (fun k => S.2 1 (5056 + k)) t.toNat) (rt_ar (fun k => S.2 1 (5056 + k)) t.toNat) a b) ∧ ∀ F A, rq3 S F A → post [] (F, A)
  | _ => False
theorem c_run : hs_C hs_sh 132 t_run := by
  refine hs_met (nL := 8) (n0 := 60) (n := 160) [] [11] e_15 (by decide +kernel) rfl rfl ?_
  intro as S post h
  unfold t_run at h
  split at h
  · rename_i z t a b
    obtain ⟨rfl, ht, ⟨-, hsg⟩, hp⟩ := h
    obtain ⟨s1, s2, s3, d, s4, s5⟩ := hsg
    refine ⟨Nat.le_of_ble_eq_true rfl, fun hh k g st S' => st = [] ∧ ∃ F A n q, S' = (F, A) ∧ g = [(0, (4, 0)), (1, (0, t)), (3, (0, b)), (4, (0, n)), (5, (0, q))] ∧ hs_fr [31, 32] S.1 F ∧ (F 31 = 0 ∨ F 31 = 1) ∧ ra S A ∧ (a ≤ q ∧ q ≤ b ∧ n = d q.toNat) ∧ b - q ≤ k, ?_, ?_⟩
    · have hA : ra S S.2 := fun _ _ => rfl
      refine And.intro (Or.inl rfl) (Exists.intro 1000 (Exists.intro [(0, (4, 0)), (1, (0, t)), (3, (0, b)), (4, (0, _)), (5, (0, _))] (And.intro (And.intro rfl (And.intro rfl (And.intro rfl (And.intro rfl (And.intro rfl (trivial)))))) (And.intro rfl (Exists.intro _ (Exists.intro _ (Exists.intro _ (Exists.intro _ (And.intro rfl (And.intro rfl (And.intro ?_ (And.intro ?_ (And.intro ?_ (And.intro ?_ ?_)))))))))))))) <;> (first | exact Or.inl rfl | exact Or.inr rfl | omega | (dsimp only at *; omega) | (first | assumption | exact hF | exact hs_fr.up rfl hF | exact hs_fr.up rfl (hs_fr.up rfl hF) | exact hs_fr.up rfl (hs_fr.up rfl (hs_fr.up rfl hF)) | exact hs_fr.up rfl hs_fr.rf) | (first | assumption | exact hA | exact hA.put | exact hA.put.put) | ((try dsimp only at *) <;> (try simp only [hs_up_r, Nat.reduceBEq, cond_true, cond_false, Int.reduceToNat, not_true_eq_false, not_false_eq_true, true_and, and_true] at *) <;> omega))
    · intro hh hm
      simp only [List.mem_cons, List.not_mem_nil, or_false] at hm
      subst hm
      intro k g st S' hI
      obtain ⟨rfl, F, A, n, q, rfl, rfl, hF, h31, hA, hq, hk⟩ := hI
      have e1 : A 1 = S.2 1 := hA 1 (by decide)
      have KP : ∀ v, post [] (hs_up F 32 v, A) := fun v => hp _ _ ⟨hs_fr.up rfl hF, h31, hA⟩
      have H : q < b → 0 ≤ n ∧ n ≤ q - a ∧ ((0 ≤ A 1 (5056 + 898 * t + 98 + 2 * q).toNat ∧ A 1 (5056 + 898 * t + 98 + 2 * q).toNat ≤ 16 ∧ d (q + 1).toNat = n + 1) ∨ (20 ≤ A 1 (5056 + 898 * t + 98 + 2 * q).toNat ∧ A 1 (5056 + 898 * t + 98 + 2 * q).toNat ≤ 26 ∧ 2 ≤ n ∧ d (q + 1).toNat = n - 1) ∨ (A 1 (5056 + 898 * t + 98 + 2 * q).toNat = 27 ∧ 1 ≤ n ∧ d (q + 1).toNat = n) ∨ ((A 1 (5056 + 898 * t + 98 + 2 * q).toNat = 28 ∨ A 1 (5056 + 898 * t + 98 + 2 * q).toNat = 29) ∧ 1 ≤ n ∧ d (q + 1).toNat = n - 1 ∧ q < A 1 (5056 + 898 * t + 98 + 2 * q + 1).toNat ∧ A 1 (5056 + 898 * t + 98 + 2 * q + 1).toNat ≤ b ∧ d (A 1 (5056 + 898 * t + 98 + 2 * q + 1).toNat).toNat = n)) := fun hl => by
        obtain ⟨g1, g2, g3⟩ := s5 q.toNat (by omega) (by omega)
        unfold rt_step rt_op rt_ar at g3
        dsimp only at g3
        rw [show 5056 + (898 * t.toNat + 98 + 2 * q.toNat) = (5056 + 898 * t + 98 + 2 * q).toNat by omega, show 5056 + (898 * t.toNat + 98 + 2 * q.toNat + 1) = (5056 + 898 * t + 98 + 2 * q + 1).toNat by omega, show q.toNat + 1 = (q + 1).toNat by omega, ← e1, ← hq.2.2] at g3
        rw [← hq.2.2] at g1 g2
        refine ⟨g1, by omega, ?_⟩
        rcases g3 with g | g | g | ⟨w1, w2, w3, w4, w5, w6⟩
        · exact Or.inl g
        · exact Or.inr (Or.inl g)
        · exact Or.inr (Or.inr (Or.inl g))
        · exact Or.inr (Or.inr (Or.inr ⟨w1, w2, w3, by omega, w5, w6⟩))
      clear hp s5
      repeat' (first | (refine And.intro ?_ ?_) | (intro _))
      all_goals (first | omega | (dsimp only at *; omega) | exact KP _ | ((try dsimp only at *) <;> (try simp only [hs_up_r, Nat.reduceBEq, cond_true, cond_false, Int.reduceToNat, not_true_eq_false, not_false_eq_true, true_and, and_true] at *) <;> omega) | (refine Exists.intro (k - 1) (And.intro ?_ (Exists.intro [(0, (4, 0)), (1, (0, t)), (3, (0, b)), (4, (0, _)), (5, (0, _))] (And.intro (And.intro rfl (And.intro rfl (And.intro rfl (And.intro rfl (And.intro rfl (trivial)))))) (And.intro rfl (Exists.intro _ (Exists.intro _ (Exists.intro _ (Exists.intro _ (And.intro rfl (And.intro rfl (And.intro ?_ (And.intro ?_ (And.intro ?_ (And.intro ?_ ?_)))))))))))))) <;> (first | exact Or.inl rfl | exact Or.inr rfl | omega | (dsimp only at *; omega) | (first | assumption | exact hF | exact hs_fr.up rfl hF | exact hs_fr.up rfl (hs_fr.up rfl hF) | exact hs_fr.up rfl (hs_fr.up rfl (hs_fr.up rfl hF)) | exact hs_fr.up rfl hs_fr.rf) | (first | assumption | exact hA | exact hA.put | exact hA.put.put) | ((try dsimp only at *) <;> (try simp only [hs_up_r, Nat.reduceBEq, cond_true, cond_false, Int.reduceToNat, not_true_eq_false, not_false_eq_true, true_and, and_true] at *) <;> omega))))
  · cases h
def E_16 : hs_E := hs_ad E_15 132 t_run
theorem e_16 : ∀ K, hs_C hs_sh K (E_16 K) := hs_ad_ok e_15 c_run

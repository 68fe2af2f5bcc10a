/-! ===== the reference: the way, whole ===== -/
def wi (S : hs_S) (A : Nat → Nat → Int) : Prop := ∀ k, ¬ k = 29 → ¬ k = 30 → ¬ k = 31 → ¬ k = 32 → A k = S.2 k
theorem ua_16_31 {A : Nat → Nat → Int} {q : Nat} {v : Int} : hs_ua A 31 q v 16 = A 16 := hs_ua_ne (by decide)
theorem ua_1_31 {A : Nat → Nat → Int} {q : Nat} {v : Int} : hs_ua A 31 q v 1 = A 1 := hs_ua_ne (by decide)
def wq (S : hs_S) (F : Nat → Int) (A : Nat → Nat → Int) : Prop := hs_fr [0, 53, 54] S.1 F ∧ (0 ≤ F 54 ∧ F 54 ≤ 7) ∧ (F 53 = 0 ∨ F 53 = 1) ∧ wi S A
def t_way : hs_T := fun as S post => match as with
  | [(4, z), (0, p), (0, _)] => z = 0 ∧ (0 ≤ S.1 34 ∧ S.1 34 ≤ 7) ∧ hs_o (ro (S.2 1)) ∧ hs_o (wz S.2) ∧ (0 ≤ S.1 54 ∧ S.1 54 ≤ 7) ∧ hs_o (S.1 53 = 0 ∨ S.1 53 = 1) ∧ ∀ v F A, wq S F A → post [(0, v)] (F, A)
  | _ => False
theorem c_way : hs_C hs_sh 150 t_way := by
  refine hs_met (nL := 7) (n0 := 120) (n := 160) [88] [44, 91] e_26 (by decide +kernel) rfl rfl ?_
  intro as S post h
  unfold t_way at h
  split at h
  · rename_i z p y
    obtain ⟨rfl, hw, ⟨-, hro⟩, ⟨-, hwz⟩, h54, ⟨-, h53⟩, hp⟩ := h
    have hR0 : 0 ≤ S.2 1 0 ∧ S.2 1 0 ≤ 16 := hro.1.1
    have hR9 : 1 ≤ S.2 1 9 := hro.1.2.2.2.2.2.2.2.2.2.1
    have KE : post [(0, -1)] (hs_up S.1 0 0, S.2) := hp _ _ _ ⟨hs_fr.up rfl hs_fr.rf, h54, h53, fun _ _ _ _ _ => rfl⟩
    have Q0 : hs_o (wq S (hs_up (hs_up (hs_up S.1 0 0) 53 1) 54 0) S.2) := hs_o.of ⟨hs_fr.up rfl (hs_fr.up rfl (hs_fr.up rfl hs_fr.rf)), ⟨(show (0 : Int) ≤ 0 by decide), (show (0 : Int) ≤ 7 by decide)⟩, Or.inr rfl, fun _ _ _ _ _ => rfl⟩
    have D0 : hs_o (gd (S.1 34) S.2 0) := hs_o.of ⟨fun k hk => by omega, fun k l hk hl => by omega⟩
    have M0 : mw S.2 0 0 = 0 := rfl
    refine ⟨Nat.le_of_ble_eq_true rfl, fun hh k g st S' => st = [] ∧ ∃ F A, S' = (F, A) ∧ hs_o (wq S F A) ∧ (0 ≤ p ∧ p ≤ 15) ∧ ((hh = 44 ∧ ∃ n j, g = [(0, (4, 0)), (1, (0, p)), (2, (0, y)), (3, (0, n)), (4, (0, j))] ∧ (n = -1 ∨ ((0 ≤ n ∧ n ≤ S.1 34) ∧ (0 ≤ j ∧ j ≤ S.1 34) ∧ hs_o (gd (S.1 34) A n) ∧ 20 * (268435463 - mw A n j) ≤ k))) ∨ (hh = 91 ∧ ∃ n j q u, g = [(0, (4, 0)), (1, (0, p)), (2, (0, y)), (3, (0, n)), (4, (0, j)), (5, (0, q)), (6, (0, u))] ∧ (0 ≤ q ∧ q ≤ 15) ∧ (0 ≤ n ∧ n ≤ S.1 34) ∧ (0 ≤ j ∧ j ≤ S.1 34) ∧ hs_o (gd (S.1 34) A n) ∧ 20 * (268435463 - mw A n j) - 5 ≤ k)), ?_, ?_⟩
    · clear hp hro hwz
      repeat' (first | (refine And.intro ?_ ?_) | (intro _))
      all_goals (first | omega | exact KE | exact Or.inl rfl | exact Or.inr rfl | (dsimp only at *; omega) | ((try dsimp only at *) <;> (try simp only [hs_up_r, Nat.reduceBEq, cond_true, cond_false, Int.reduceToNat, not_true_eq_false, not_false_eq_true, true_and, and_true] at *) <;> omega) | (refine Exists.intro 20000000000 (Exists.intro [(0, (4, 0)), (1, (0, p)), (2, (0, y)), (3, (0, _)), (4, (0, _))] (And.intro (And.intro rfl (And.intro rfl (And.intro rfl (And.intro rfl (And.intro rfl (trivial)))))) (And.intro rfl (Exists.intro _ (Exists.intro _ (And.intro rfl (And.intro ?_ (And.intro ?_ (Or.inl (And.intro rfl (Exists.intro _ (Exists.intro _ (And.intro rfl (Or.inr (And.intro ?_ (And.intro ?_ (And.intro ?_ ?_))))))))))))))))) <;> (first | exact Q0 | exact D0 | omega | (dsimp only at *; omega) | ((try dsimp only at *) <;> (try simp only [hs_up_r, Nat.reduceBEq, cond_true, cond_false, Int.reduceToNat, not_true_eq_false, not_false_eq_true, true_and, and_true] at *) <;> omega))))
    · clear KE Q0 D0 M0
      intro hh hm
      simp only [List.mem_cons, List.not_mem_nil, or_false] at hm
      rcases hm with rfl | rfl
      · intro k g st S' hI
        obtain ⟨rfl, F, A, rfl, hq, hpp, ⟨-, n, j, rfl, hI⟩ | ⟨e, -⟩⟩ := hI
        rotate_left
        · exact absurd e (by decide)
        have KP : ∀ v, post [(0, v)] (F, A) := fun v => hp v F A hq.to
        have e34 : F 34 = S.1 34 := hq.to.1 34 (by decide)
        rcases hI with rfl | ⟨hn, hj, hgo, hk⟩
        · clear hp hwz hro
          repeat' (first | (refine And.intro ?_ ?_) | (intro _))
          all_goals (first | omega | exact KP _ | (dsimp only at *; omega) | ((try dsimp only at *) <;> (try simp only [hs_up_r, Nat.reduceBEq, cond_true, cond_false, Int.reduceToNat, not_true_eq_false, not_false_eq_true, true_and, and_true] at *) <;> omega))
        have hg := hgo.to
        have hT := mw_top (i := n) (j := j) hw.2 (by omega) (by omega) hg
        have hWA : A 16 = S.2 16 := hq.to.2.2.2 16 (by decide) (by decide) (by decide) (by decide)
        have L1 : ¬ n = 0 → 0 ≤ A 31 (n - 1).toNat ∧ A 31 (n - 1).toNat < S.1 34 := fun h => hg.1 _ (by omega)
        have W1 : ¬ n = 0 → 0 ≤ A 16 (A 31 (n - 1).toNat).toNat ∧ A 16 (A 31 (n - 1).toNat).toNat ≤ 15 := fun h => by
          rw [hWA]
          exact hwz _ (L1 h).1 (by have := L1 h; omega)
        clear hp hwz hro hg hWA
        repeat' (first | (refine And.intro ?_ ?_) | (intro _))
        all_goals (first | omega | exact KP _ | (dsimp only at *; omega) | ((try dsimp only at *) <;> (try simp only [hs_up_r, Nat.reduceBEq, cond_true, cond_false, Int.reduceToNat, not_true_eq_false, not_false_eq_true, true_and, and_true] at *) <;> omega) | (refine Exists.intro (k - 1) (And.intro ?_ (Exists.intro [(0, (4, 0)), (1, (0, p)), (2, (0, y)), (3, (0, _)), (4, (0, _)), (5, (0, _)), (6, (0, _))] (And.intro (And.intro rfl (And.intro rfl (And.intro rfl (And.intro rfl (And.intro rfl (And.intro rfl (And.intro rfl (trivial)))))))) (And.intro rfl (Exists.intro _ (Exists.intro _ (And.intro rfl (And.intro ?_ (And.intro ?_ (Or.inr (And.intro rfl (Exists.intro _ (Exists.intro _ (Exists.intro _ (Exists.intro _ (And.intro rfl (And.intro ?_ (And.intro ?_ (And.intro ?_ (And.intro ?_ ?_)))))))))))))))))))) <;> (first | omega | assumption | exact hq | exact hgo | (dsimp only at *; omega) | ((try dsimp only at *) <;> (try simp only [hs_up_r, Nat.reduceBEq, cond_true, cond_false, Int.reduceToNat, not_true_eq_false, not_false_eq_true, true_and, and_true] at *) <;> omega))))
      · intro k g st S' hI
        obtain ⟨rfl, F, A, rfl, hq, hpp, ⟨e, -⟩ | ⟨-, n, j, q, u, rfl, hqq, hn, hj, hgo, hk⟩⟩ := hI
        · exact absurd e (by decide)
        have e34 : F 34 = S.1 34 := hq.to.1 34 (by decide)
        have hF54 : 0 ≤ F 54 ∧ F 54 ≤ 7 := hq.to.2.1
        have hg := hgo.to
        have hT := mw_top (i := n) (j := j) hw.2 (by omega) (by omega) hg
        have hWA : A 16 = S.2 16 := hq.to.2.2.2 16 (by decide) (by decide) (by decide) (by decide)
        have h1A : A 1 = S.2 1 := hq.to.2.2.2 1 (by decide) (by decide) (by decide) (by decide)
        have R9 : 1 ≤ A 1 9 := by rw [h1A]; exact hR9
        have L0 : 0 ≤ n + -1 → 0 ≤ A 31 (n + -1).toNat ∧ A 31 (n + -1).toNat < S.1 34 := fun h => hg.1 _ (by omega)
        have MB : ¬ n + -1 < 0 → mw A n j + 1 ≤ mw A (n + -1) (A 31 (n + -1).toNat + 1) := fun h => mw_bck (by omega) (by omega)
        have GB : hs_o (gd (S.1 34) A (n + -1)) := hs_o.of hg.bck
        have MN := mw_nxt (A := A) (i := n) (j := j)
        have W1 : j < 7 → 0 ≤ A 16 j.toNat ∧ A 16 j.toNat ≤ 15 := fun h => by
          rw [hWA]
          exact hwz _ (by omega) h
        have FR : hs_o (gf A n j) → j < S.1 34 → n < S.1 34 := fun h1 h2 => gd.room hw.1 hn.1 ⟨hj.1, h2⟩ h1.to hg
        have LQ : ∀ v1 v A', (0 ≤ v ∧ v ≤ 7) → kw (F, hs_ua (hs_ua A 31 n.toNat j) 32 n.toNat v1) A' → hs_o (wq S (hs_up F 54 v) A') := fun v1 v A' hv hk => hs_o.of ⟨hs_fr.up rfl hq.to.1, hv, hq.to.2.2.1, fun k h1 h2 h3 h4 => by
          rw [hk k h1 h2]
          show hs_ua (hs_ua A 31 n.toNat j) 32 n.toNat v1 k = _
          rw [hs_ua_ne h4, hs_ua_ne h3]
          exact hq.to.2.2.2 k h1 h2 h3 h4⟩
        have L31 : ∀ v1 A', kw (F, hs_ua (hs_ua A 31 n.toNat j) 32 n.toNat v1) A' → A' 31 = hs_ua A 31 n.toNat j 31 := fun v1 A' hk => by
          rw [hk 31 (by decide) (by decide)]
          show hs_ua (hs_ua A 31 n.toNat j) 32 n.toNat v1 31 = _
          rw [hs_ua_ne (by decide)]
        have LG : hs_o (gf A n j) → j < S.1 34 → ∀ v1 A', kw (F, hs_ua (hs_ua A 31 n.toNat j) 32 n.toNat v1) A' → hs_o (gd (S.1 34) A' (n + 1)) := fun h1 h2 v1 A' hk => hs_o.of (gd.adv hn.1 ⟨hj.1, h2⟩ (L31 v1 A' hk) h1.to hg)
        have LM : ∀ v1 A', kw (F, hs_ua (hs_ua A 31 n.toNat j) 32 n.toNat v1) A' → mw A' (n + 1) 0 = mw A n j + 1 := fun v1 A' hk => mw_adv hn.1 (L31 v1 A' hk)
        clear hp hwz hro hg hWA h1A
        repeat' (first | (refine And.intro ?_ ?_) | (intro _))
        all_goals (first | omega | (dsimp only at *; omega) | (dsimp only at *; simp only [Int.reduceToNat, ua_16_31, ua_1_31]; omega) | ((try dsimp only at *) <;> (try simp only [hs_up_r, Nat.reduceBEq, cond_true, cond_false, Int.reduceToNat, not_true_eq_false, not_false_eq_true, true_and, and_true] at *) <;> omega) | ((try dsimp only at *); have := FR ‹_›; omega) | ((try dsimp only at *); simp only [Int.reduceToNat] at *; have := FR ‹_›; omega) | (refine Exists.intro (k - 1) (And.intro ?_ (Exists.intro [(0, (4, 0)), (1, (0, p)), (2, (0, y)), (3, (0, _)), (4, (0, _))] (And.intro (And.intro rfl (And.intro rfl (And.intro rfl (And.intro rfl (And.intro rfl (trivial)))))) (And.intro rfl (Exists.intro _ (Exists.intro _ (And.intro rfl (And.intro ?_ (And.intro ?_ (Or.inl (And.intro rfl (Exists.intro _ (Exists.intro _ (And.intro rfl (Or.inr (And.intro ?_ (And.intro ?_ (And.intro ?_ ?_)))))))))))))))))) <;> (first | exact GB | exact LQ _ _ _ (by assumption) (by assumption) | exact LG ‹_› (by dsimp only at *; omega) _ _ (by assumption) | (have := LM _ _ (by assumption); (try dsimp only at *); omega) | ((try dsimp only at *); have := FR ‹_›; omega) | first | omega | assumption | exact hq | exact hgo | (dsimp only at *; omega) | ((try dsimp only at *) <;> (try simp only [hs_up_r, Nat.reduceBEq, cond_true, cond_false, Int.reduceToNat, not_true_eq_false, not_false_eq_true, true_and, and_true] at *) <;> omega))) | (refine Exists.intro (k - 1) (And.intro ?_ (Exists.intro [(0, (4, 0)), (1, (0, p)), (2, (0, y)), (3, (0, _)), (4, (0, _))] (And.intro (And.intro rfl (And.intro rfl (And.intro rfl (And.intro rfl (And.intro rfl (trivial)))))) (And.intro rfl (Exists.intro _ (Exists.intro _ (And.intro rfl (And.intro ?_ (And.intro ?_ (Or.inl (And.intro rfl (Exists.intro _ (Exists.intro _ (And.intro rfl (Or.inl ?_))))))))))))))) <;> (first | omega | assumption | exact hq | exact hgo | (dsimp only at *; omega) | ((try dsimp only at *) <;> (try simp only [hs_up_r, Nat.reduceBEq, cond_true, cond_false, Int.reduceToNat, not_true_eq_false, not_false_eq_true, true_and, and_true] at *) <;> omega))) | (refine Exists.intro (k - 1) (And.intro ?_ (Exists.intro [(0, (4, 0)), (1, (0, p)), (2, (0, y)), (3, (0, _)), (4, (0, _)), (5, (0, _)), (6, (0, _))] (And.intro (And.intro rfl (And.intro rfl (And.intro rfl (And.intro rfl (And.intro rfl (And.intro rfl (And.intro rfl (trivial)))))))) (And.intro rfl (Exists.intro _ (Exists.intro _ (And.intro rfl (And.intro ?_ (And.intro ?_ (Or.inr (And.intro rfl (Exists.intro _ (Exists.intro _ (Exists.intro _ (Exists.intro _ (And.intro rfl (And.intro ?_ (And.intro ?_ (And.intro ?_ (And.intro ?_ ?_)))))))))))))))))))) <;> (first | omega | assumption | exact hq | exact hgo | (dsimp only at *; omega) | ((try dsimp only at *) <;> (try simp only [hs_up_r, Nat.reduceBEq, cond_true, cond_false, Int.reduceToNat, not_true_eq_false, not_false_eq_true, true_and, and_true] at *) <;> omega))))
  · cases h
def E_27 : hs_E := hs_ad E_26 150 t_way
theorem e_27 : ∀ K, hs_C hs_sh K (E_27 K) := hs_ad_ok e_26 c_way

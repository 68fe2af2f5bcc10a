/-! ===== the reference: order, its contract ===== -/
abbrev hs_OF : List Nat := [0, 1, 10, 17, 11, 12, 13, 14, 15, 16, 19, 22, 25, 26]
def ri (S : hs_S) (F : Nat → Int) (A : Nat → Nat → Int) : Prop := hs_fr hs_OF S.1 F ∧ pe F ∧ (∀ k, ¬ k = 7 → ¬ k = 8 → ¬ k = 9 → ¬ k = 10 → ¬ k = 11 → A k = S.2 k) ∧ (0 ≤ F 17 ∧ F 17 ≤ 12) ∧ (F 16 = 0 → ∀ c : Nat, (c : Int) < F 17 → cl_ok A (F 19) c)
theorem cl_ok.ext {A A' : Nat → Nat → Int} {N N' : Int} {c : Nat} (h : cl_ok A N c) (hN : N ≤ N') (h7 : ∀ i, i < 8 → A' 7 (8 * c + i) = A 7 (8 * c + i)) (h8 : ∀ j : Nat, (j : Int) < N → A' 8 j = A 8 j ∧ A' 9 j = A 9 j) : cl_ok A' N' c := by
  obtain ⟨q1, q2, q3, q4, q5, q6⟩ := h
  unfold cl_ok
  rw [h7 1 (by decide), h7 2 (by decide), h7 3 (by decide), h7 4 (by decide), h7 5 (by decide), h7 6 (by decide)]
  exact ⟨q1, q2, by omega, by omega, rt_seg_ext q5 (fun j hj => (h8 j (by omega)).1) (fun j hj => (h8 j (by omega)).2), rt_seg_ext q6 (fun j hj => (h8 j (by omega)).1) (fun j hj => (h8 j (by omega)).2)⟩
theorem ri.nx {S : hs_S} {F : Nat → Int} {A : Nat → Nat → Int} {a b c d : Int} (h : ri S F A) (h13 : ¬ F 13 = 0) (n1 : F 12 ≤ a) (n2 : a ≤ b) (n3 : b ≤ F 10) (n4 : 0 ≤ c) (n5 : c ≤ 3) (n6 : c = 0 → a = F 10) (n7 : ¬ c = 0 → a < b) : ri S (hs_up (hs_up (hs_up (hs_up F 11 a) 12 b) 13 c) 14 d) A ∧ F 11 < a := by
  obtain ⟨h1, h2, h3, h4, h5⟩ := h
  obtain ⟨g1, g2⟩ := h2.nx (d := d) h13 n1 n2 n3 n4 n5 n6 n7
  exact ⟨⟨hs_fr.up rfl (hs_fr.up rfl (hs_fr.up rfl (hs_fr.up rfl h1))), g1, h3, h4, h5⟩, g2⟩
theorem ri.ry {S : hs_S} {F F' : Nat → Int} {A A' : Nat → Nat → Int} (h : ri S F A) (hb : F 16 = 0) (hr : ry (F, A) F' A') : ri S F' A' ∧ F 11 ≤ F' 11 := by
  obtain ⟨h1, h2, h3, h4, h5⟩ := h
  obtain ⟨r1, r2, r3, r4, r5, r6⟩ := hr
  refine ⟨⟨h1.tr (r1.wk rfl), r2, fun k a b c d e => (r4 k a b c d e).trans (h3 k a b c d e), r5, fun hb' => ?_⟩, r3⟩
  have r6' : F 11 < F' 11 ∧ F' 17 = F 17 + 1 ∧ F 19 ≤ F' 19 ∧ (∀ j, j < (F 19).toNat → A' 8 j = A 8 j ∧ A' 9 j = A 9 j) ∧ (∀ i : Nat, (i : Int) < 8 * F 17 → A' 7 i = A 7 i) ∧ cl_ok A' (F' 19) (F 17).toNat := r6 hb'
  obtain ⟨w1, w2, w3, w4, w5, w6⟩ := r6'
  intro c hc
  by_cases e : (c : Int) = F 17
  · rw [show c = (F 17).toNat by omega]
    exact w6
  · exact (h5 hb c (by omega)).ext w3 (fun i hi => w5 _ (by omega)) (fun j hj => w4 j (by omega))
def t_order : hs_T := fun as S post => match as with
  | [(4, z), (0, _)] => z = 0 ∧ (0 ≤ S.1 10 ∧ S.1 10 ≤ 400) ∧ hs_o (ro (S.2 1)) ∧ ∀ v F A, hs_fr hs_OF S.1 F → (0 ≤ F 10 ∧ F 10 ≤ 400) → ro (A 1) → (∀ j, j < 10 → ¬ j = 2 → A 1 j = S.2 1 j) → (∀ k, ¬ k = 1 → ¬ k = 7 → ¬ k = 8 → ¬ k = 9 → ¬ k = 10 → ¬ k = 11 → A k = S.2 k) → post [(0, v)] (F, A)
  | _ => False
def i_ord (S : hs_S) (first : Int) (F : Nat → Int) (A Ap : Nat → Nat → Int) (i k : Nat) : Prop := hs_fr hs_OF S.1 F ∧ F 10 = 0 ∧ (0 ≤ F 17 ∧ F 17 ≤ 12) ∧ (0 ≤ F 19 ∧ F 19 ≤ 400) ∧ (∀ k, ¬ k = 1 → A k = Ap k) ∧ (∀ k, ¬ k = 7 → ¬ k = 8 → ¬ k = 9 → ¬ k = 10 → ¬ k = 11 → Ap k = S.2 k) ∧ (∀ c : Nat, (c : Int) < F 17 → cl_ok Ap (F 19) c) ∧ A 1 = tx (S.2 1) (S.2 1 2).toNat first (F 17) (Ap 7) (Ap 8) (Ap 9) i k
theorem c_order : hs_C hs_sh 113 t_order := by
  refine hs_met (nL := 4) (n0 := 120) (n := 120) [] [69, 165, 200] e_12 (by decide +kernel) rfl rfl ?_
  intro as S post h
  unfold t_order at h
  split at h
  · rename_i z first
    obtain ⟨rfl, h10, ⟨-, hro⟩, hp⟩ := h
    have hr2 : 0 ≤ S.2 1 2 ∧ S.2 1 2 ≤ 20 := hro.1.2.2.1
    have KB : ∀ F A v w, ri S F A → post [(0, v)] (hs_up (hs_up F 10 0) 1 w, A) := fun F A v w h => hp v _ A (hs_fr.up rfl (hs_fr.up rfl h.1)) (by show (0 : Int) ≤ 0 ∧ (0 : Int) ≤ 400; omega) (by rw [h.2.2.1 1 (by decide) (by decide) (by decide) (by decide) (by decide)]; exact hro) (fun j _ _ => by rw [h.2.2.1 1 (by decide) (by decide) (by decide) (by decide) (by decide)]) (fun k h1 h7 h8 h9 h10 h11 => h.2.2.1 k h7 h8 h9 h10 h11)
    refine ⟨Nat.le_of_ble_eq_true rfl, fun hh k g st S' => st = [] ∧ S.2 1 2 < 20 ∧ ∃ F A, S' = (F, A) ∧ ((hh = 69 ∧ g = [(0, (4, 0)), (1, (0, first))] ∧ ri S F A ∧ (F 16 = 0 → 1400 - F 11 ≤ k) ∧ 1000 ≤ k) ∨ (hh = 165 ∧ ∃ (i : Nat) (Ap : Nat → Nat → Int), g = [(0, (4, 0)), (1, (0, first)), (2, (0, 5056 + 898 * S.2 1 2)), (3, (0, (i : Int)))] ∧ i_ord S first F A Ap i 0 ∧ (i : Int) ≤ 8 * F 17 ∧ 500 + (96 - i) ≤ k) ∨ (hh = 200 ∧ ∃ (i : Nat) (Ap : Nat → Nat → Int), g = [(0, (4, 0)), (1, (0, first)), (2, (0, 5056 + 898 * S.2 1 2)), (3, (0, (i : Int)))] ∧ i_ord S first F A Ap (8 * F 17).toNat i ∧ (i : Int) ≤ F 19 ∧ 400 - i ≤ k)), ?_, ?_⟩
    · -- up to the first clause
      have K0 : ∀ v w, post [(0, v)] (hs_up (hs_up (hs_up S.1 0 0) 10 0) 1 w, S.2) := fun v w => hp v _ _ (hs_fr.up rfl (hs_fr.up rfl (hs_fr.up rfl hs_fr.rf))) (by show (0 : Int) ≤ 0 ∧ (0 : Int) ≤ 400; omega) hro (fun _ _ _ => rfl) (fun _ _ _ _ _ _ _ => rfl)
      have KR : S.2 1 2 < 20 → ∀ a b c d w, 0 ≤ a → a ≤ b → b ≤ S.1 10 → 0 ≤ c → c ≤ 3 → (c = 0 → a = S.1 10) → (¬ c = 0 → a < b) → ri S (hs_up (hs_up (hs_up (hs_up (hs_up (hs_up (hs_up (hs_up (hs_up (hs_up (hs_up S.1 0 0) 12 0) 16 0) 15 w) 11 a) 12 b) 13 c) 14 d) 17 0) 19 0) 22 0) S.2 := fun _ a b c d w n1 n2 n3 n4 n5 n6 n7 => ⟨hs_fr.up rfl (hs_fr.up rfl (hs_fr.up rfl (hs_fr.up rfl (hs_fr.up rfl (hs_fr.up rfl (hs_fr.up rfl (hs_fr.up rfl (hs_fr.up rfl (hs_fr.up rfl (hs_fr.up rfl hs_fr.rf)))))))))), ⟨⟨h10.2, n1, n2, n3⟩, ⟨n4, n5⟩, n6, n7, Or.inl rfl, (by show (0 : Int) ≤ 0 ∧ (0 : Int) ≤ 50; omega), Int.le_refl _, n1⟩, fun _ _ _ _ _ _ => rfl, (by show (0 : Int) ≤ 0 ∧ (0 : Int) ≤ 12; omega), fun _ c hc => absurd hc (by show ¬ (c : Int) < 0; omega)⟩
      have KC : ∀ F A F' A', S.2 1 2 < 20 → ri S F A → F 16 = 0 → ry (F, A) F' A' → hs_J (fun g st S' => st = [] ∧ S.2 1 2 < 20 ∧ ∃ F A, S' = (F, A) ∧ ((69 = 69 ∧ g = [(0, (4, 0)), (1, (0, first))] ∧ ri S F A ∧ (F 16 = 0 → 1400 - F 11 ≤ (2000 : Nat)) ∧ 1000 ≤ (2000 : Nat)) ∨ (69 = 165 ∧ ∃ (i : Nat) (Ap : Nat → Nat → Int), g = [(0, (4, 0)), (1, (0, first)), (2, (0, 5056 + 898 * S.2 1 2)), (3, (0, (i : Int)))] ∧ i_ord S first F A Ap i 0 ∧ (i : Int) ≤ 8 * F 17 ∧ 500 + (96 - i) ≤ (2000 : Nat)) ∨ (69 = 200 ∧ ∃ (i : Nat) (Ap : Nat → Nat → Int), g = [(0, (4, 0)), (1, (0, first)), (2, (0, 5056 + 898 * S.2 1 2)), (3, (0, (i : Int)))] ∧ i_ord S first F A Ap (8 * F 17).toNat i ∧ (i : Int) ≤ F 19 ∧ 400 - i ≤ (2000 : Nat)))) [(0, (4, 0)), (1, (0, first))] [] (F', A') := fun F A F' A' h20 h1 hb h2 => by
        obtain ⟨g1, g2⟩ := h1.ry hb h2
        exact ⟨[(0, (4, 0)), (1, (0, first))], ⟨rfl, rfl, trivial⟩, rfl, h20, F', A', rfl, Or.inl ⟨rfl, rfl, g1, fun _ => by have := g1.2.1.1.2.1; omega, by omega⟩⟩
      clear hp KB
      repeat' (first | (refine And.intro ?_ ?_) | (intro _))
      all_goals (first | omega | (dsimp only at *; omega) | exact K0 _ _ | (refine Exists.intro 2000 (KC _ _ _ _ ?_ ?_ ?_ (by assumption)) <;> first | rfl | (refine KR ?_ _ _ _ _ _ ?_ ?_ ?_ ?_ ?_ ?_ ?_ <;> first | assumption | omega | (dsimp only at *; omega) | ((try dsimp only at *) <;> (try simp only [hs_up_r, Nat.reduceBEq, cond_true, cond_false, Int.reduceToNat, not_true_eq_false, not_false_eq_true, true_and, and_true] at *) <;> omega)) | (dsimp only at *; omega) | ((try dsimp only at *) <;> (try simp only [hs_up_r, Nat.reduceBEq, cond_true, cond_false, Int.reduceToNat, not_true_eq_false, not_false_eq_true, true_and, and_true] at *) <;> omega)) | (refine hs_o.of (KR ?_ _ _ _ _ _ ?_ ?_ ?_ ?_ ?_ ?_ ?_).2.1 <;> first | assumption | omega | (dsimp only at *; omega) | ((try dsimp only at *) <;> (try simp only [hs_up_r, Nat.reduceBEq, cond_true, cond_false, Int.reduceToNat, not_true_eq_false, not_false_eq_true, true_and, and_true] at *) <;> omega)) | ((try dsimp only at *) <;> (try simp only [hs_up_r, Nat.reduceBEq, cond_true, cond_false, Int.reduceToNat, not_true_eq_false, not_false_eq_true, true_and, and_true] at *) <;> omega) | (simp only [Int.reduceToNat] at *; dsimp only at *; omega))
    · intro hh hm
      simp only [List.mem_cons, List.not_mem_nil, or_false] at hm
      rcases hm with rfl | rfl | rfl
      · -- 69
        intro k g st S' hI
        obtain ⟨rfl, h20, F, A, rfl, ⟨-, rfl, hri, hm1, hm2⟩ | ⟨e, -⟩ | ⟨e, -⟩⟩ := hI
        rotate_left
        · exact absurd e (by decide)
        · exact absurd e (by decide)
        obtain ⟨p1, p2, p3, p4, p5, p6, p7, p8⟩ := hri.2.1
        have e12 : A 1 = S.2 1 := hri.2.2.1 1 (by decide) (by decide) (by decide) (by decide) (by decide)
        have hT : (5056 + 898 * S.2 1 2).toNat = 5056 + 898 * (S.2 1 2).toNat := by omega
        have hT1 : (5056 + 898 * S.2 1 2 + 1).toNat = 5056 + 898 * (S.2 1 2).toNat + 1 := by omega
        have hA2 : A 1 2 = S.2 1 2 := by rw [e12]
        have K165 : F 16 = 0 → ∃ k', k' < k ∧ hs_J (fun g st S' => st = [] ∧ S.2 1 2 < 20 ∧ ∃ F A, S' = (F, A) ∧ ((165 = 69 ∧ g = [(0, (4, 0)), (1, (0, first))] ∧ ri S F A ∧ (F 16 = 0 → 1400 - F 11 ≤ k') ∧ 1000 ≤ k') ∨ (165 = 165 ∧ ∃ (i : Nat) (Ap : Nat → Nat → Int), g = [(0, (4, 0)), (1, (0, first)), (2, (0, 5056 + 898 * S.2 1 2)), (3, (0, (i : Int)))] ∧ i_ord S first F A Ap i 0 ∧ (i : Int) ≤ 8 * F 17 ∧ 500 + (96 - i) ≤ k') ∨ (165 = 200 ∧ ∃ (i : Nat) (Ap : Nat → Nat → Int), g = [(0, (4, 0)), (1, (0, first)), (2, (0, 5056 + 898 * S.2 1 2)), (3, (0, (i : Int)))] ∧ i_ord S first F A Ap (8 * F 17).toNat i ∧ (i : Int) ≤ F 19 ∧ 400 - i ≤ k'))) [(3, (0, 0)), (2, (0, 5056 + 898 * A 1 2)), (0, (4, 0)), (1, (0, first))] [] (hs_up F 10 0, hs_ua (hs_ua A 1 (5056 + 898 * A 1 2).toNat first) 1 (5056 + 898 * A 1 2 + 1).toNat (F 17)) := fun hb => by
          rw [hA2, hT, hT1]
          refine ⟨700, by omega, [(0, (4, 0)), (1, (0, first)), (2, (0, 5056 + 898 * S.2 1 2)), (3, (0, ((0 : Nat) : Int)))], ⟨rfl, rfl, rfl, rfl, trivial⟩, rfl, h20, _, _, rfl, Or.inr (Or.inl ⟨rfl, 0, A, rfl, ⟨hs_fr.up rfl hri.1, rfl, hri.2.2.2.1, ⟨p7, by show F 19 ≤ 400; omega⟩, fun k hk => by rw [hs_ua_ne hk, hs_ua_ne hk], hri.2.2.1, hri.2.2.2.2 hb, ?_⟩, (by have := hri.2.2.2.1.1; show ((0 : Nat) : Int) ≤ 8 * F 17; omega), by omega⟩)⟩
          exact tx_0 e12
        have K69 : ∀ a b c d, F 16 = 0 → ¬ F 13 = 0 → F 12 ≤ a → a ≤ b → b ≤ F 10 → 0 ≤ c → c ≤ 3 → (c = 0 → a = F 10) → (¬ c = 0 → a < b) → ∀ F' A', ry (hs_up (hs_up (hs_up (hs_up F 11 a) 12 b) 13 c) 14 d, A) F' A' → ∃ k', k' < k ∧ hs_J (fun g st S' => st = [] ∧ S.2 1 2 < 20 ∧ ∃ F A, S' = (F, A) ∧ ((69 = 69 ∧ g = [(0, (4, 0)), (1, (0, first))] ∧ ri S F A ∧ (F 16 = 0 → 1400 - F 11 ≤ k') ∧ 1000 ≤ k') ∨ (69 = 165 ∧ ∃ (i : Nat) (Ap : Nat → Nat → Int), g = [(0, (4, 0)), (1, (0, first)), (2, (0, 5056 + 898 * S.2 1 2)), (3, (0, (i : Int)))] ∧ i_ord S first F A Ap i 0 ∧ (i : Int) ≤ 8 * F 17 ∧ 500 + (96 - i) ≤ k') ∨ (69 = 200 ∧ ∃ (i : Nat) (Ap : Nat → Nat → Int), g = [(0, (4, 0)), (1, (0, first)), (2, (0, 5056 + 898 * S.2 1 2)), (3, (0, (i : Int)))] ∧ i_ord S first F A Ap (8 * F 17).toNat i ∧ (i : Int) ≤ F 19 ∧ 400 - i ≤ k'))) [(0, (4, 0)), (1, (0, first))] [] (F', A') := fun a b c d hb h13 n1 n2 n3 n4 n5 n6 n7 F' A' hr => by
          obtain ⟨g1, g2⟩ := hri.nx (d := d) h13 n1 n2 n3 n4 n5 n6 n7
          obtain ⟨g3, g4⟩ := g1.ry hb hr
          have g4' : a ≤ F' 11 := g4
          have q := hm1 hb
          have l1 := g3.2.1.1
          exact ⟨k - 1, by omega, [(0, (4, 0)), (1, (0, first))], ⟨rfl, rfl, trivial⟩, rfl, h20, F', A', rfl, Or.inl ⟨rfl, rfl, g3, fun _ => by omega, by omega⟩⟩
        have KPE : ∀ a b c d, ¬ F 13 = 0 → F 12 ≤ a → a ≤ b → b ≤ F 10 → 0 ≤ c → c ≤ 3 → (c = 0 → a = F 10) → (¬ c = 0 → a < b) → hs_o (pe (hs_up (hs_up (hs_up (hs_up F 11 a) 12 b) 13 c) 14 d)) := fun a b c d h13 n1 n2 n3 n4 n5 n6 n7 => hs_o.of (hri.nx (d := d) h13 n1 n2 n3 n4 n5 n6 n7).1.2.1
        have KB1 : ∀ v w, post [(0, v)] (hs_up (hs_up F 10 0) 1 w, A) := fun v w => KB F A v w hri
        have KB2 : ∀ v w w', post [(0, v)] (hs_up (hs_up (hs_up (hs_up F 16 1) 15 w') 10 0) 1 w, A) := fun v w w' => KB _ A v w ⟨hs_fr.up rfl (hs_fr.up rfl hri.1), hri.2.1.bad, hri.2.2.1, hri.2.2.2.1, fun hb => absurd (show (1 : Int) = 0 from hb) (by decide)⟩
        have h17 := hri.2.2.2.1
        clear hp KB hri hro
        repeat' (first | (refine And.intro ?_ ?_) | (intro _))
        all_goals (first | omega | (dsimp only at *; omega) | exact KB1 _ _ | exact KB2 _ _ _ | (refine K69 _ _ _ _ ?_ ?_ ?_ ?_ ?_ ?_ ?_ ?_ ?_ _ _ (by assumption) <;> first | assumption | omega | (dsimp only at *; omega)) | (refine KPE _ _ _ _ ?_ ?_ ?_ ?_ ?_ ?_ ?_ ?_ <;> first | assumption | omega | (dsimp only at *; omega)) | (refine K165 ?_; first | assumption | omega | (dsimp only at *; omega)) | ((try dsimp only at *) <;> (try simp only [hs_up_r, Nat.reduceBEq, cond_true, cond_false, Int.reduceToNat, not_true_eq_false, not_false_eq_true, true_and, and_true] at *) <;> omega) | (rw [hA2] at *; omega))
      · -- 165
        intro k g st S' hI
        obtain ⟨rfl, h20, F, A, rfl, ⟨e, -⟩ | ⟨-, i, Ap, rfl, ⟨q1, q2, q3, q4, q5, q6, q7, q8⟩, hi, hm⟩ | ⟨e, -⟩⟩ := hI
        · exact absurd e (by decide)
        · have e7 : A 7 = Ap 7 := q5 7 (by decide)
          refine And.intro ?_ (And.intro (fun g1 => ?_) (fun g1 => ?_))
          · show -2147483648 ≤ 8 * F 17 ∧ 8 * F 17 ≤ 2147483647
            omega
          · have g2 : 8 * F 17 ≤ i := g1
            exact Exists.intro 450 (And.intro (by omega) (Exists.intro [(0, (4, 0)), (1, (0, first)), (2, (0, 5056 + 898 * S.2 1 2)), (3, (0, ((0 : Nat) : Int)))] (And.intro (And.intro rfl (And.intro rfl (And.intro rfl (And.intro rfl (trivial))))) (And.intro rfl (And.intro h20 (Exists.intro _ (Exists.intro _ (And.intro rfl (Or.inr (Or.inr ⟨rfl, 0, Ap, rfl, ⟨q1, q2, q3, q4, q5, q6, q7, by rw [show (8 * F 17).toNat = i by omega]; exact q8⟩, by omega, by omega⟩))))))))))
          · have g2 : ¬ 8 * F 17 ≤ i := g1
            refine And.intro ?_ (And.intro ?_ (And.intro ?_ (And.intro ?_ (And.intro ?_ (Exists.intro (k - 1) (And.intro (by omega) (Exists.intro [(0, (4, 0)), (1, (0, first)), (2, (0, 5056 + 898 * S.2 1 2)), (3, (0, ((i + 1 : Nat) : Int)))] (And.intro (And.intro rfl (And.intro rfl (And.intro rfl (And.intro rfl (trivial))))) (And.intro rfl (And.intro h20 (Exists.intro F (Exists.intro (hs_ua A 1 (5056 + 898 * S.2 1 2 + 2 + (i : Int)).toNat (A 7 i)) (And.intro rfl (Or.inr (Or.inl ⟨rfl, i + 1, Ap, rfl, ⟨q1, q2, q3, q4, fun k hk => by rw [hs_ua_ne hk]; exact q5 k hk, q6, q7, by rw [show (5056 + 898 * S.2 1 2 + 2 + (i : Int)).toNat = 5056 + 898 * (S.2 1 2).toNat + 2 + i by omega, e7]; exact tx_c q8⟩, by omega, by omega⟩)))))))))))))))
            · show -2147483648 ≤ 5056 + 898 * S.2 1 2 + 2 ∧ 5056 + 898 * S.2 1 2 + 2 ≤ 2147483647
              omega
            · show -2147483648 ≤ 5056 + 898 * S.2 1 2 + 2 + (i : Int) ∧ 5056 + 898 * S.2 1 2 + 2 + (i : Int) ≤ 2147483647
              omega
            · show 0 ≤ (i : Int) ∧ (i : Int) < (96 : Nat)
              omega
            · show 0 ≤ 5056 + 898 * S.2 1 2 + 2 + (i : Int) ∧ 5056 + 898 * S.2 1 2 + 2 + (i : Int) < (23016 : Nat)
              omega
            · show -2147483648 ≤ (i : Int) + 1 ∧ (i : Int) + 1 ≤ 2147483647
              omega
        · exact absurd e (by decide)
      · -- 200
        intro k g st S' hI
        obtain ⟨rfl, h20, F, A, rfl, ⟨e, -⟩ | ⟨e, -⟩ | ⟨-, i, Ap, rfl, ⟨q1, q2, q3, q4, q5, q6, q7, q8⟩, hi, hm⟩⟩ := hI
        · exact absurd e (by decide)
        · exact absurd e (by decide)
        · have e8 : A 8 = Ap 8 := q5 8 (by decide)
          have e9 : A 9 = Ap 9 := q5 9 (by decide)
          have e2 : A 1 2 = S.2 1 2 := by
            rw [q8]
            unfold tx
            rw [if_neg (by omega), if_neg (by omega), if_neg (by omega), if_neg (by omega)]
          refine And.intro (fun g1 => ?_) (fun g1 => ?_)
          · have g2 : F 19 ≤ i := g1
            refine And.intro ?_ (And.intro ?_ (And.intro ?_ (And.intro ?_ (And.intro ?_ (And.intro rfl (fun w => ?_))))))
            · show 0 ≤ (2 : Int) ∧ (2 : Int) < (23016 : Nat)
              omega
            · show -2147483648 ≤ A 1 2 + 1 ∧ A 1 2 + 1 ≤ 2147483647
              omega
            · show 0 ≤ (2 : Int) ∧ (2 : Int) < (23016 : Nat)
              omega
            · show 0 ≤ (2 : Int) ∧ (2 : Int) < (23016 : Nat)
              omega
            · show -2147483648 ≤ hs_ua A 1 2 (A 1 2 + 1) 1 2 - 1 ∧ hs_ua A 1 2 (A 1 2 + 1) 1 2 - 1 ≤ 2147483647
              rw [hs_ua_k, if_pos rfl]
              omega
            · refine hp _ (hs_up F 1 w) (hs_ua A 1 2 (A 1 2 + 1)) (hs_fr.up rfl q1) (by show 0 ≤ F 10 ∧ F 10 ≤ 400; omega) ?_ (fun j hj h2 => by rw [hs_ua_k, if_neg h2, q8]; unfold tx; rw [if_neg (by omega), if_neg (by omega), if_neg (by omega), if_neg (by omega)]) (fun k h1 h7 h8 h9 h10 h11 => by rw [hs_ua_ne h1, q5 k h1]; exact q6 k h7 h8 h9 h10 h11)
              refine ro_tx (T := (S.2 1 2).toNat) (i := (8 * F 17).toNat) (k := i) (f := first) (n := F 17) (A := Ap) hro (by omega) (by omega) q3 (by omega) (by omega) (fun c hc => by rw [show (i : Int) = F 19 by omega]; exact q7 c hc) (fun j => ?_)
              rw [hs_ua_k, e2, q8]
              by_cases e : j = 2
              · rw [if_pos e, if_pos e]; omega
              · rw [if_neg e, if_neg e]
          · have g2 : ¬ F 19 ≤ i := g1
            refine And.intro ?_ (And.intro ?_ (And.intro ?_ (And.intro ?_ (And.intro ?_ (And.intro ?_ (And.intro ?_ (And.intro ?_ (And.intro ?_ (And.intro ?_ (And.intro ?_ (And.intro ?_ (Exists.intro (k - 1) (And.intro (by omega) (Exists.intro [(0, (4, 0)), (1, (0, first)), (2, (0, 5056 + 898 * S.2 1 2)), (3, (0, ((i + 1 : Nat) : Int)))] (And.intro (And.intro rfl (And.intro rfl (And.intro rfl (And.intro rfl (trivial))))) (And.intro rfl (And.intro h20 (Exists.intro F (Exists.intro (hs_ua (hs_ua A 1 (5056 + 898 * S.2 1 2 + 98 + 2 * (i : Int)).toNat (A 8 i)) 1 (5056 + 898 * S.2 1 2 + 98 + 2 * (i : Int) + 1).toNat (A 9 i)) (And.intro rfl (Or.inr (Or.inr ⟨rfl, i + 1, Ap, rfl, ⟨q1, q2, q3, q4, fun k hk => by rw [hs_ua_ne hk, hs_ua_ne hk]; exact q5 k hk, q6, q7, by rw [show (5056 + 898 * S.2 1 2 + 98 + 2 * (i : Int)).toNat = 5056 + 898 * (S.2 1 2).toNat + 98 + 2 * i by omega, show (5056 + 898 * S.2 1 2 + 98 + 2 * (i : Int) + 1).toNat = 5056 + 898 * (S.2 1 2).toNat + 98 + 2 * i + 1 by omega, e8, e9]; exact tx_o (by omega) q8⟩, by omega, by omega⟩))))))))))))))))))))))
            all_goals first
              | (show -2147483648 ≤ 5056 + 898 * S.2 1 2 + 98 ∧ 5056 + 898 * S.2 1 2 + 98 ≤ 2147483647; omega)
              | (show -2147483648 ≤ 2 * (i : Int) ∧ 2 * (i : Int) ≤ 2147483647; omega)
              | (show -2147483648 ≤ 5056 + 898 * S.2 1 2 + 98 + 2 * (i : Int) ∧ 5056 + 898 * S.2 1 2 + 98 + 2 * (i : Int) ≤ 2147483647; omega)
              | (show 0 ≤ (i : Int) ∧ (i : Int) < (400 : Nat); omega)
              | (show 0 ≤ 5056 + 898 * S.2 1 2 + 98 + 2 * (i : Int) ∧ 5056 + 898 * S.2 1 2 + 98 + 2 * (i : Int) < (23016 : Nat); omega)
              | (show -2147483648 ≤ 5056 + 898 * S.2 1 2 + 98 + 2 * (i : Int) + 1 ∧ 5056 + 898 * S.2 1 2 + 98 + 2 * (i : Int) + 1 ≤ 2147483647; omega)
              | (show 0 ≤ 5056 + 898 * S.2 1 2 + 98 + 2 * (i : Int) + 1 ∧ 5056 + 898 * S.2 1 2 + 98 + 2 * (i : Int) + 1 < (23016 : Nat); omega)
              | (show -2147483648 ≤ (i : Int) + 1 ∧ (i : Int) + 1 ≤ 2147483647; omega)
  · cases h

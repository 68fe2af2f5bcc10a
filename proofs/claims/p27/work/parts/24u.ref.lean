/-! ===== the reference: names come in ===== -/
def t_areLetters : hs_T := fun as S post => match as with
  | [(0, a)] => a = a ∧ (post [(0, 0)] S ∧ post [(0, 1)] S)
  | _ => False
theorem c_areLetters : hs_C hs_sh 31 t_areLetters := by
  refine hs_met (nL := 3) (n0 := 60) (n := 120) [] [5] e_27 (by decide +kernel) rfl rfl ?_
  intro as S post h
  unfold t_areLetters at h
  split at h
  · rename_i a
    obtain ⟨-, p0, p1⟩ := h
    refine ⟨Nat.le_of_ble_eq_true rfl, (fun hh k g st S' => st = [] ∧ S' = S ∧ ∃ u i, g = [(0, (0, a)), (1, (0, u)), (2, (0, i))] ∧ (u = 0 ∨ u = 1) ∧ (-8 ≤ i ∧ i ≤ 24) ∧ i + 8 ≤ k), ?_, ?_⟩
    · refine Exists.intro 100 (Exists.intro [(0, (0, a)), (1, (0, _)), (2, (0, _))] (And.intro (And.intro rfl (And.intro rfl (And.intro rfl (trivial)))) (And.intro rfl (And.intro rfl (Exists.intro _ (Exists.intro _ (And.intro rfl (And.intro ?_ (And.intro ?_ ?_))))))))) <;> (first | exact Or.inr rfl | (try dsimp only at *) <;> (try simp only [hs_up_r, Nat.reduceBEq, cond_true, cond_false, Int.reduceToNat, not_true_eq_false, not_false_eq_true, true_and, and_true] at *) <;> omega)
    · intro hh hm
      simp only [List.mem_cons, List.not_mem_nil, or_false] at hm
      subst hm
      intro k g st S' hI
      obtain ⟨rfl, rfl, u, i, rfl, hu, hi, hk⟩ := hI
      have KP : post [(0, u)] S' := by
        rcases hu with rfl | rfl
        · exact p0
        · exact p1
      repeat' (first | (refine And.intro ?_ ?_) | (intro _))
      all_goals (first | omega | exact KP | (dsimp only at *; omega) | ((try dsimp only at *) <;> (try simp only [hs_up_r, Nat.reduceBEq, cond_true, cond_false, Int.reduceToNat, not_true_eq_false, not_false_eq_true, true_and, and_true] at *) <;> omega) | (refine Exists.intro (k - 1) (And.intro ?_ (Exists.intro [(0, (0, a)), (1, (0, _)), (2, (0, _))] (And.intro (And.intro rfl (And.intro rfl (And.intro rfl (trivial)))) (And.intro rfl (And.intro rfl (Exists.intro _ (Exists.intro _ (And.intro rfl (And.intro ?_ (And.intro ?_ ?_)))))))))) <;> (first | exact Or.inl rfl | exact Or.inr rfl | assumption | (try dsimp only at *) <;> (try simp only [hs_up_r, Nat.reduceBEq, cond_true, cond_false, Int.reduceToNat, not_true_eq_false, not_false_eq_true, true_and, and_true] at *) <;> omega)))
  · cases h
def E_28 : hs_E := hs_ad E_27 31 t_areLetters
theorem e_28 : ∀ K, hs_C hs_sh K (E_28 K) := hs_ad_ok e_27 c_areLetters
def t_isPerson : hs_T := fun as S post => match as with
  | [(0, _), (0, _), (0, _), (0, _)] => post [(0, 0)] S ∧ post [(0, 1)] S
  | _ => False
theorem c_isPerson : hs_C hs_sh 83 t_isPerson := by
  refine hs_met0 (nL := 4) (n0 := 80) [] e_28 (by decide +kernel) rfl rfl ?_
  intro as S post h
  unfold t_isPerson at h
  split at h
  · obtain ⟨p0, p1⟩ := h
    refine ⟨Nat.le_of_ble_eq_true rfl, ?_⟩
    repeat' (first | (refine And.intro ?_ ?_) | (intro _))
    all_goals (first | omega | ((try dsimp only at *) <;> (try simp only [hs_up_r, Nat.reduceBEq, cond_true, cond_false, Int.reduceToNat, not_true_eq_false, not_false_eq_true, true_and, and_true] at *) <;> omega) | (exact p0) | (exact p1))
  · cases h
def E_29 : hs_E := hs_ad E_28 83 t_isPerson
theorem e_29 : ∀ K, hs_C hs_sh K (E_29 K) := hs_ad_ok e_28 c_isPerson
theorem ro_nm {R R' : Nat → Int} {m : Nat} {p : Int} (h : ro R) (hm : m < 200) (hR : ∀ j, ¬ j = 1 → ¬ (68 + 11 * m ≤ j ∧ j < 79 + 11 * m) → R' j = R j) (h0 : R' (68 + 11 * m) = p) (hp : 0 ≤ p ∧ p ≤ 15) (h8 : R' (76 + 11 * m) = -1) (h1 : 0 ≤ R' 1 ∧ R' 1 ≤ 200) : ro R' := by
  obtain ⟨⟨a0, a1, a2, a3, a4, a5, a6, a7, a8, a9⟩, b, c, d, e, f, g⟩ := h
  have H : ∀ j, ¬ j = 1 → (j < 68 ∨ 2268 ≤ j) → R' j = R j := fun j h1 h2 => hR j h1 (by omega)
  refine ⟨⟨?_, h1, ?_, ?_, ?_, ?_, ?_, ?_, ?_, ?_⟩, fun n hn => ?_, fun n hn => ?_, fun n hn => ?_, fun n hn => ?_, fun t ht => ?_, ?_⟩
  · rw [H 0 (by decide) (by decide)]; exact a0
  · rw [H 2 (by decide) (by decide)]; exact a2
  · rw [H 3 (by decide) (by decide)]; exact a3
  · rw [H 4 (by decide) (by decide)]; exact a4
  · rw [H 5 (by decide) (by decide)]; exact a5
  · rw [H 6 (by decide) (by decide)]; exact a6
  · rw [H 7 (by decide) (by decide)]; exact a7
  · rw [H 8 (by decide) (by decide)]; exact a8
  · rw [H 9 (by decide) (by decide)]; exact a9
  · by_cases e : n = m
    · subst e
      rw [h0, h8]
      omega
    · rw [hR _ (by omega) (by omega), hR _ (by omega) (by omega)]; exact b n hn
  · rw [H _ (by omega) (by omega)]; exact c n hn
  · rw [H _ (by omega) (by omega)]; exact d n hn
  · rw [H _ (by omega) (by omega), H _ (by omega) (by omega), H _ (by omega) (by omega)]; exact e n hn
  · rw [H _ (by omega) (by omega)]; exact f t ht
  · have q : (fun k => R' (5056 + k)) = fun k => R (5056 + k) := funext fun k => H _ (by omega) (by omega)
    rw [q]; exact g
def nm (S : hs_S) (A : Nat → Nat → Int) : Prop := (∀ k, ¬ k = 1 → A k = S.2 k) ∧ ro (A 1) ∧ A 1 1 = S.2 1 1 + 1 ∧ ∀ j, j < 10 → ¬ j = 1 → A 1 j = S.2 1 j
theorem hs_ua_b {A : Nat → Nat → Int} {i : Nat} {v : Int} {j : Nat} : hs_ua A 1 i v 1 j = if j = i then v else A 1 j := by rw [hs_ua_k]
theorem nm_of {S : hs_S} {p a b c d e : Int} (h : ro (S.2 1)) (hp : 0 ≤ p ∧ p ≤ 15) (h1 : 0 ≤ S.2 1 1 ∧ S.2 1 1 < 200) : nm S (hs_ua (hs_ua (hs_ua (hs_ua (hs_ua (hs_ua (hs_ua (hs_ua (hs_ua (hs_ua (hs_ua (hs_ua (hs_ua S.2 1 (68 + 11 * S.2 1 1).toNat p) 1 (68 + 11 * S.2 1 1 + 1).toNat a) 1 (68 + 11 * S.2 1 1 + 2).toNat b) 1 (68 + 11 * S.2 1 1 + 3).toNat c) 1 (68 + 11 * S.2 1 1 + 4).toNat d) 1 (68 + 11 * S.2 1 1 + 4 + 1).toNat e) 1 (68 + 11 * S.2 1 1 + 4 + 2).toNat (-1)) 1 (68 + 11 * S.2 1 1 + 4 + 3).toNat (-1)) 1 (68 + 11 * S.2 1 1 + 7).toNat (-1)) 1 (68 + 11 * S.2 1 1 + 7 + 1).toNat (-1)) 1 (68 + 11 * S.2 1 1 + 7 + 2).toNat (-1)) 1 (68 + 11 * S.2 1 1 + 7 + 3).toNat (-1)) 1 1 (S.2 1 1 + 1)) := by
  have e11 : hs_ua (hs_ua (hs_ua (hs_ua (hs_ua (hs_ua (hs_ua (hs_ua (hs_ua (hs_ua (hs_ua (hs_ua (hs_ua S.2 1 (68 + 11 * S.2 1 1).toNat p) 1 (68 + 11 * S.2 1 1 + 1).toNat a) 1 (68 + 11 * S.2 1 1 + 2).toNat b) 1 (68 + 11 * S.2 1 1 + 3).toNat c) 1 (68 + 11 * S.2 1 1 + 4).toNat d) 1 (68 + 11 * S.2 1 1 + 4 + 1).toNat e) 1 (68 + 11 * S.2 1 1 + 4 + 2).toNat (-1)) 1 (68 + 11 * S.2 1 1 + 4 + 3).toNat (-1)) 1 (68 + 11 * S.2 1 1 + 7).toNat (-1)) 1 (68 + 11 * S.2 1 1 + 7 + 1).toNat (-1)) 1 (68 + 11 * S.2 1 1 + 7 + 2).toNat (-1)) 1 (68 + 11 * S.2 1 1 + 7 + 3).toNat (-1)) 1 1 (S.2 1 1 + 1) 1 1 = S.2 1 1 + 1 := by
    rw [hs_ua_b, if_pos rfl]
  refine ⟨fun k hk => ?_, ro_nm (m := (S.2 1 1).toNat) (p := p) h (by omega) (fun j h1 h2 => ?_) ?_ hp ?_ (by rw [e11]; omega), e11, fun j hj h1 => ?_⟩
  · rw [hs_ua_ne hk, hs_ua_ne hk, hs_ua_ne hk, hs_ua_ne hk, hs_ua_ne hk, hs_ua_ne hk, hs_ua_ne hk, hs_ua_ne hk, hs_ua_ne hk, hs_ua_ne hk, hs_ua_ne hk, hs_ua_ne hk, hs_ua_ne hk]
  · iterate 13 rw [hs_ua_b, if_neg (by omega)]
  · iterate 12 rw [hs_ua_b, if_neg (by omega)]
    rw [hs_ua_b, if_pos (by omega)]
  · iterate 3 rw [hs_ua_b, if_neg (by omega)]
    rw [hs_ua_b, if_pos (by omega)]
  · iterate 13 rw [hs_ua_b, if_neg (by omega)]
def t_addName : hs_T := fun as S post => match as with
  | [(4, z), (0, p), (0, _), (0, _), (0, _), (0, _), (0, _)] => z = 0 ∧ (0 ≤ p ∧ p ≤ 15) ∧ hs_o (ro (S.2 1)) ∧ (0 ≤ S.2 1 1 ∧ S.2 1 1 < 200) ∧ ∀ A, nm S A → post [] (S.1, A)
  | _ => False
theorem hs_ua_c {A : Nat → Nat → Int} {i : Nat} {v : Int} {j : Nat} (h : ¬ j = i) : hs_ua A 1 i v 1 j = A 1 j := by rw [hs_ua_k, if_neg h]
theorem c_addName : hs_C hs_sh 25 t_addName := by
  refine hs_met0 (nL := 8) (n0 := 90) [] e_29 (by decide +kernel) rfl rfl ?_
  intro as S post h
  unfold t_addName at h
  split at h
  · rename_i z p a b c d e
    obtain ⟨rfl, hp, ⟨-, hro⟩, h1, hq⟩ := h
    have KN := hq _ (nm_of (a := a) (b := b) (c := c) (d := d) (e := e) hro hp h1)
    have E1 : ∀ (x1 x2 x3 x4 x5 x6 x7 x8 x9 y1 y2 y3 : Int), hs_ua (hs_ua (hs_ua (hs_ua (hs_ua (hs_ua (hs_ua (hs_ua (hs_ua (hs_ua (hs_ua (hs_ua S.2 1 (68 + 11 * S.2 1 1).toNat x1) 1 (68 + 11 * S.2 1 1 + 1).toNat x2) 1 (68 + 11 * S.2 1 1 + 2).toNat x3) 1 (68 + 11 * S.2 1 1 + 3).toNat x4) 1 (68 + 11 * S.2 1 1 + 4).toNat x5) 1 (68 + 11 * S.2 1 1 + 4 + 1).toNat x6) 1 (68 + 11 * S.2 1 1 + 4 + 2).toNat x7) 1 (68 + 11 * S.2 1 1 + 4 + 3).toNat x8) 1 (68 + 11 * S.2 1 1 + 7).toNat x9) 1 (68 + 11 * S.2 1 1 + 7 + 1).toNat y1) 1 (68 + 11 * S.2 1 1 + 7 + 2).toNat y2) 1 (68 + 11 * S.2 1 1 + 7 + 3).toNat y3 1 1 = S.2 1 1 := fun x1 x2 x3 x4 x5 x6 x7 x8 x9 y1 y2 y3 => by
      iterate 12 rw [hs_ua_c (by omega)]
    clear hq hro
    refine ⟨Nat.le_of_ble_eq_true rfl, ?_⟩
    repeat' (first | (refine And.intro ?_ ?_) | (intro _))
    all_goals (first | omega | (dsimp only at *; omega) | exact KN | ((try dsimp only at *); (try simp only [Int.reduceToNat, E1] at *); first | omega | exact KN))
  · cases h
def E_30 : hs_E := hs_ad E_29 25 t_addName
theorem e_30 : ∀ K, hs_C hs_sh K (E_30 K) := hs_ad_ok e_29 c_addName
def rwA (S : hs_S) (A : Nat → Nat → Int) : Prop := (∀ k, ¬ k = 1 → A k = S.2 k) ∧ ro (A 1) ∧ ∀ j, j < 10 → ¬ j = 1 → A 1 j = S.2 1 j
def rw4 (S : hs_S) (F : Nat → Int) (A : Nat → Nat → Int) : Prop := hs_fr [0, 1, 10] S.1 F ∧ (F 10 = 0 ∨ F 10 = S.1 10) ∧ rwA S A
def t_row : hs_T := fun as S post => match as with
  | [(4, z), (0, p), (0, y)] => z = 0 ∧ (0 ≤ S.1 10 ∧ S.1 10 ≤ 400) ∧ hs_o (ro (S.2 1)) ∧ ∀ v F A, rw4 S F A → post [(0, v)] (F, A)
  | _ => False
theorem c_row : hs_C hs_sh 129 t_row := by
  refine hs_met (nL := 7) (n0 := 120) (n := 120) [] [84] e_30 (by decide +kernel) rfl rfl ?_
  intro as S post h
  unfold t_row at h
  split at h
  · rename_i z p y
    obtain ⟨rfl, hT, ⟨-, hro⟩, hq⟩ := h
    have hR0 : 0 ≤ S.2 1 0 ∧ S.2 1 0 ≤ 16 := hro.1.1
    have hR1 : 0 ≤ S.2 1 1 ∧ S.2 1 1 ≤ 200 := hro.1.2.1
    have Q0 : hs_o (rwA S S.2) := hs_o.of ⟨fun _ _ => rfl, hro, fun _ _ _ => rfl⟩
    have KR : ∀ v w A, hs_o (rwA S A) → post [(0, v)] (hs_up (hs_up (hs_up S.1 0 0) 10 0) 1 w, A) := fun v w A h => hq _ _ _ ⟨hs_fr.up rfl (hs_fr.up rfl (hs_fr.up rfl hs_fr.rf)), Or.inl rfl, h.to⟩
    refine ⟨Nat.le_of_ble_eq_true rfl, (fun hh k g st S' => st = [] ∧ ∃ A c i, S' = (hs_up (hs_up S.1 0 0) 10 0, A) ∧ g = [(0, (4, 0)), (1, (0, p)), (2, (0, y)), (3, (0, S.1 10)), (4, (0, c)), (5, (0, i))] ∧ hs_o (rwA S A) ∧ (0 ≤ p ∧ p ≤ 15) ∧ (0 ≤ c ∧ c ≤ i) ∧ (0 ≤ i ∧ i ≤ S.1 10 / 7) ∧ A 1 1 + (S.1 10 / 7 - i) ≤ 200 ∧ 400 - i ≤ k), ?_, ?_⟩
    · clear hq hro
      repeat' (first | (refine And.intro ?_ ?_) | (intro _))
      all_goals (first | omega | (dsimp only at *; omega) | exact KR _ _ _ Q0 | ((try dsimp only at *) <;> (try simp only [hs_up_r, Nat.reduceBEq, cond_true, cond_false, Int.reduceToNat, not_true_eq_false, not_false_eq_true, true_and, and_true] at *) <;> omega) | (refine Exists.intro 1000 (Exists.intro [(0, (4, 0)), (1, (0, p)), (2, (0, y)), (3, (0, (S.1 10))), (4, (0, _)), (5, (0, _))] (And.intro (And.intro rfl (And.intro rfl (And.intro rfl (And.intro rfl (And.intro rfl (And.intro rfl (trivial))))))) (And.intro rfl (Exists.intro _ (Exists.intro _ (Exists.intro _ (And.intro rfl (And.intro rfl (And.intro ?_ (And.intro ?_ (And.intro ?_ (And.intro ?_ (And.intro ?_ ?_))))))))))))) <;> (first | omega | exact Q0 | ((try dsimp only at *) <;> (try simp only [hs_up_r, Nat.reduceBEq, cond_true, cond_false, Int.reduceToNat, not_true_eq_false, not_false_eq_true, true_and, and_true] at *) <;> omega))))
    · intro hh hm
      simp only [List.mem_cons, List.not_mem_nil, or_false] at hm
      subst hm
      intro k g st S' hI
      obtain ⟨rfl, A, c, i, rfl, rfl, hA, hpp, hc, hi, h200, hk⟩ := hI
      have hroA : hs_o (ro (A 1)) := hs_o.of hA.to.2.1
      have hA1 : 0 ≤ A 1 1 ∧ A 1 1 ≤ 200 := hA.to.2.1.1.2.1
      have N1 : ∀ F A', nm (F, A) A' → hs_o (rwA S A') := fun F A' h => hs_o.of ⟨fun k hk => (h.1 k hk).trans (hA.to.1 k hk), h.2.1, fun j hj h1 => (h.2.2.2 j hj h1).trans (hA.to.2.2 j hj h1)⟩
      have N2 : ∀ F A', nm (F, A) A' → A' 1 1 = A 1 1 + 1 := fun F A' h => h.2.2.1
      clear hq hro
      repeat' (first | (refine And.intro ?_ ?_) | (intro _))
      all_goals (first | omega | (dsimp only at *; omega) | exact hroA | exact KR _ _ _ hA | ((try dsimp only at *) <;> (try simp only [hs_up_r, Nat.reduceBEq, cond_true, cond_false, Int.reduceToNat, not_true_eq_false, not_false_eq_true, true_and, and_true] at *) <;> omega) | (refine Exists.intro (k - 1) (And.intro ?_ (Exists.intro [(0, (4, 0)), (1, (0, p)), (2, (0, y)), (3, (0, (S.1 10))), (4, (0, _)), (5, (0, _))] (And.intro (And.intro rfl (And.intro rfl (And.intro rfl (And.intro rfl (And.intro rfl (And.intro rfl (trivial))))))) (And.intro rfl (Exists.intro _ (Exists.intro _ (Exists.intro _ (And.intro rfl (And.intro rfl (And.intro ?_ (And.intro ?_ (And.intro ?_ (And.intro ?_ (And.intro ?_ ?_)))))))))))))) <;> (first | omega | exact hA | exact N1 _ _ (by assumption) | (dsimp only at *; omega) | (have := N2 _ _ (by assumption); (try dsimp only at *); omega) | ((try dsimp only at *) <;> (try simp only [hs_up_r, Nat.reduceBEq, cond_true, cond_false, Int.reduceToNat, not_true_eq_false, not_false_eq_true, true_and, and_true] at *) <;> omega))))
  · cases h
def E_31 : hs_E := hs_ad E_30 129 t_row
theorem e_31 : ∀ K, hs_C hs_sh K (E_31 K) := hs_ad_ok e_30 c_row

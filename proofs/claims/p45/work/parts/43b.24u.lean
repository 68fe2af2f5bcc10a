/-! ===== the reference: names come in ===== -/
def nmQ (S : hs_S) (A : Nat → Nat → Int) : Prop := (∀ k, ¬ k = 1 → A k = S.2 k) ∧ ro (A 1) ∧ A 1 1 = S.2 1 1 + 1 ∧ ∀ j, j < 10 → ¬ j = 1 → A 1 j = S.2 1 j
theorem nm_ofQ {S : hs_S} {p a b c d e : Int} (h : ro (S.2 1)) (hp : 0 ≤ p ∧ p ≤ 15) (h1 : 0 ≤ S.2 1 1 ∧ S.2 1 1 < 200) : nmQ S (hs_ua (hs_ua (hs_ua (hs_ua (hs_ua (hs_ua (hs_ua (hs_ua (hs_ua (hs_ua (hs_ua (hs_ua (hs_ua S.2 1 (68 + 11 * S.2 1 1).toNat p) 1 (68 + 11 * S.2 1 1 + 1).toNat a) 1 (68 + 11 * S.2 1 1 + 2).toNat b) 1 (68 + 11 * S.2 1 1 + 3).toNat c) 1 (68 + 11 * S.2 1 1 + 4).toNat d) 1 (68 + 11 * S.2 1 1 + 4 + 1).toNat e) 1 (68 + 11 * S.2 1 1 + 4 + 2).toNat (-1)) 1 (68 + 11 * S.2 1 1 + 4 + 3).toNat (-1)) 1 (68 + 11 * S.2 1 1 + 7).toNat (-1)) 1 (68 + 11 * S.2 1 1 + 7 + 1).toNat (-1)) 1 (68 + 11 * S.2 1 1 + 7 + 2).toNat (-1)) 1 (68 + 11 * S.2 1 1 + 7 + 3).toNat (-1)) 1 1 (S.2 1 1 + 1)) := by
  have e11 : hs_ua (hs_ua (hs_ua (hs_ua (hs_ua (hs_ua (hs_ua (hs_ua (hs_ua (hs_ua (hs_ua (hs_ua (hs_ua S.2 1 (68 + 11 * S.2 1 1).toNat p) 1 (68 + 11 * S.2 1 1 + 1).toNat a) 1 (68 + 11 * S.2 1 1 + 2).toNat b) 1 (68 + 11 * S.2 1 1 + 3).toNat c) 1 (68 + 11 * S.2 1 1 + 4).toNat d) 1 (68 + 11 * S.2 1 1 + 4 + 1).toNat e) 1 (68 + 11 * S.2 1 1 + 4 + 2).toNat (-1)) 1 (68 + 11 * S.2 1 1 + 4 + 3).toNat (-1)) 1 (68 + 11 * S.2 1 1 + 7).toNat (-1)) 1 (68 + 11 * S.2 1 1 + 7 + 1).toNat (-1)) 1 (68 + 11 * S.2 1 1 + 7 + 2).toNat (-1)) 1 (68 + 11 * S.2 1 1 + 7 + 3).toNat (-1)) 1 1 (S.2 1 1 + 1) 1 1 = S.2 1 1 + 1 := by
    rw [hs_ua_b, if_pos rfl]
  refine ⟨fun k hk => ?_, ro_nm (m := (S.2 1 1).toNat) (p := p) h (by omega) (fun j h1 h2 => ?_) ?_ hp ?_ (by rw [e11]; omega), e11, fun j hj h1 => ?_⟩
  · rw [hs_ua_ne hk, hs_ua_ne hk, hs_ua_ne hk, hs_ua_ne hk, hs_ua_ne hk, hs_ua_ne hk, hs_ua_ne hk, hs_ua_ne hk, hs_ua_ne hk, hs_ua_ne hk, hs_ua_ne hk, hs_ua_ne hk, hs_ua_ne hk]
  · iterate 13 rw [hs_ua_b, if_neg (by omega)]
  · iterate 12 rw [hs_ua_b, if_neg (by omega)]
    rw [hs_ua_b, if_pos (by omega)]
  · iterate 3 rw [hs_ua_b, if_neg (by omega)]
    rw [hs_ua_b, if_pos (by omega)]
  · iterate 13 rw [hs_ua_b, if_neg (by omega)]
def t_addNameQ : hs_T := fun as S post => match as with
  | [(4, z), (0, p), (0, _), (0, _), (0, _), (0, _), (0, _)] => z = 0 ∧ (0 ≤ p ∧ p ≤ 15) ∧ hs_o (ro (S.2 1)) ∧ (0 ≤ S.2 1 1 ∧ S.2 1 1 < 200) ∧ ∀ A, nmQ S A → post [] (S.1, A)
  | _ => False
theorem c_addNameQ : hs_C hs_sh 25 t_addNameQ := by
  refine hs_met0 (nL := 8) (n0 := 90) [] e_29 (by decide +kernel) rfl rfl ?_
  intro as S post h
  unfold t_addNameQ at h
  split at h
  · rename_i z p a b c d e
    obtain ⟨rfl, hp, ⟨-, hro⟩, h1, hq⟩ := h
    have KN := hq _ (nm_ofQ (a := a) (b := b) (c := c) (d := d) (e := e) hro hp h1)
    have E1 : ∀ (x1 x2 x3 x4 x5 x6 x7 x8 x9 y1 y2 y3 : Int), hs_ua (hs_ua (hs_ua (hs_ua (hs_ua (hs_ua (hs_ua (hs_ua (hs_ua (hs_ua (hs_ua (hs_ua S.2 1 (68 + 11 * S.2 1 1).toNat x1) 1 (68 + 11 * S.2 1 1 + 1).toNat x2) 1 (68 + 11 * S.2 1 1 + 2).toNat x3) 1 (68 + 11 * S.2 1 1 + 3).toNat x4) 1 (68 + 11 * S.2 1 1 + 4).toNat x5) 1 (68 + 11 * S.2 1 1 + 4 + 1).toNat x6) 1 (68 + 11 * S.2 1 1 + 4 + 2).toNat x7) 1 (68 + 11 * S.2 1 1 + 4 + 3).toNat x8) 1 (68 + 11 * S.2 1 1 + 7).toNat x9) 1 (68 + 11 * S.2 1 1 + 7 + 1).toNat y1) 1 (68 + 11 * S.2 1 1 + 7 + 2).toNat y2) 1 (68 + 11 * S.2 1 1 + 7 + 3).toNat y3 1 1 = S.2 1 1 := fun x1 x2 x3 x4 x5 x6 x7 x8 x9 y1 y2 y3 => by
      iterate 12 rw [hs_ua_c (by omega)]
    clear hq hro
    refine ⟨Nat.le_of_ble_eq_true rfl, ?_⟩
    repeat' (first | (refine And.intro ?_ ?_) | (intro _))
    all_goals (first | omega | (dsimp only at *; omega) | exact KN | ((try dsimp only at *); (try simp only [Int.reduceToNat, E1] at *); first | omega | exact KN))
  · cases h
def E_30Q : hs_E := hs_ad E_29 25 t_addNameQ
theorem e_30Q : ∀ K, hs_C hs_sh K (E_30Q K) := hs_ad_ok e_29 c_addNameQ
def rwAQ (S : hs_S) (A : Nat → Nat → Int) : Prop := (∀ k, ¬ k = 1 → A k = S.2 k) ∧ ro (A 1) ∧ ∀ j, j < 10 → ¬ j = 1 → A 1 j = S.2 1 j
def rw4Q (S : hs_S) (F : Nat → Int) (A : Nat → Nat → Int) : Prop := hs_fr [0, 1, 10] S.1 F ∧ (F 10 = 0 ∨ F 10 = S.1 10) ∧ rwAQ S A
def t_rowQ : hs_T := fun as S post => match as with
  | [(4, z), (0, p), (0, y)] => z = 0 ∧ (0 ≤ S.1 10 ∧ S.1 10 ≤ 400) ∧ hs_o (ro (S.2 1)) ∧ ∀ v F A, rw4Q S F A → post [(0, v)] (F, A)
  | _ => False
theorem c_rowQ : hs_C hs_sh 129 t_rowQ := by
  refine hs_met (nL := 7) (n0 := 120) (n := 120) [] [84] e_30Q (by decide +kernel) rfl rfl ?_
  intro as S post h
  unfold t_rowQ at h
  split at h
  · rename_i z p y
    obtain ⟨rfl, hT, ⟨-, hro⟩, hq⟩ := h
    have hR0 : 0 ≤ S.2 1 0 ∧ S.2 1 0 ≤ 16 := hro.1.1
    have hR1 : 0 ≤ S.2 1 1 ∧ S.2 1 1 ≤ 200 := hro.1.2.1
    have Q0 : hs_o (rwAQ S S.2) := hs_o.of ⟨fun _ _ => rfl, hro, fun _ _ _ => rfl⟩
    have KR : ∀ v w A, hs_o (rwAQ S A) → post [(0, v)] (hs_up (hs_up (hs_up S.1 0 0) 10 0) 1 w, A) := fun v w A h => hq _ _ _ ⟨hs_fr.up rfl (hs_fr.up rfl (hs_fr.up rfl hs_fr.rf)), Or.inl rfl, h.to⟩
    refine ⟨Nat.le_of_ble_eq_true rfl, (fun hh k g st S' => st = [] ∧ ∃ A c i, S' = (hs_up (hs_up S.1 0 0) 10 0, A) ∧ g = [(0, (4, 0)), (1, (0, p)), (2, (0, y)), (3, (0, S.1 10)), (4, (0, c)), (5, (0, i))] ∧ hs_o (rwAQ S A) ∧ (0 ≤ p ∧ p ≤ 15) ∧ (0 ≤ c ∧ c ≤ i) ∧ (0 ≤ i ∧ i ≤ S.1 10 / 7) ∧ A 1 1 + (S.1 10 / 7 - i) ≤ 200 ∧ 400 - i ≤ k), ?_, ?_⟩
    · clear hq hro
      repeat' (first | (refine And.intro ?_ ?_) | (intro _))
      all_goals (first | omega | (dsimp only at *; omega) | exact KR _ _ _ Q0 | ((try dsimp only at *) <;> (try simp only [hs_up_r, Nat.reduceBEq, cond_true, cond_false, Int.reduceToNat, not_true_eq_false, not_false_eq_true, true_and, and_true] at *) <;> omega) | (refine Exists.intro 1000 (Exists.intro [(0, (4, 0)), (1, (0, p)), (2, (0, y)), (3, (0, (S.1 10))), (4, (0, _)), (5, (0, _))] (And.intro (And.intro rfl (And.intro rfl (And.intro rfl (And.intro rfl (And.intro rfl (And.intro rfl (trivial))))))) (And.intro rfl (Exists.intro _ (Exists.intro _ (Exists.intro _ (And.intro rfl (And.intro rfl (And.intro ?_ (And.intro ?_ (And.intro ?_ (And.intro ?_ (And.intro ?_ ?_))))))))))))) <;> (first | omega | exact Q0 | ((try dsimp only at *) <;> (try simp only [hs_up_r, Nat.reduceBEq, cond_true, cond_false, Int.reduceToNat, not_true_eq_false, not_false_eq_true, true_and, and_true] at *) <;> omega))))
    · intro hh hm
      simp only [List.mem_cons, List.not_mem_nil, or_false] at hm
      subst hm
      intro k g st S' hI
      obtain ⟨rfl, A, c, i, rfl, rfl, hA, hpp, hc, hi, h200, hk⟩ := hI
      have hroA : hs_o (ro (A 1)) := hs_o.of hA.to.2.1
      have hA1 : 0 ≤ A 1 1 ∧ A 1 1 ≤ 200 := hA.to.2.1.1.2.1
      have N1 : ∀ F A', nmQ (F, A) A' → hs_o (rwAQ S A') := fun F A' h => hs_o.of ⟨fun k hk => (h.1 k hk).trans (hA.to.1 k hk), h.2.1, fun j hj h1 => (h.2.2.2 j hj h1).trans (hA.to.2.2 j hj h1)⟩
      have N2 : ∀ F A', nmQ (F, A) A' → A' 1 1 = A 1 1 + 1 := fun F A' h => h.2.2.1
      clear hq hro
      repeat' (first | (refine And.intro ?_ ?_) | (intro _))
      all_goals (first | omega | (dsimp only at *; omega) | exact hroA | exact KR _ _ _ hA | ((try dsimp only at *) <;> (try simp only [hs_up_r, Nat.reduceBEq, cond_true, cond_false, Int.reduceToNat, not_true_eq_false, not_false_eq_true, true_and, and_true] at *) <;> omega) | (refine Exists.intro (k - 1) (And.intro ?_ (Exists.intro [(0, (4, 0)), (1, (0, p)), (2, (0, y)), (3, (0, (S.1 10))), (4, (0, _)), (5, (0, _))] (And.intro (And.intro rfl (And.intro rfl (And.intro rfl (And.intro rfl (And.intro rfl (And.intro rfl (trivial))))))) (And.intro rfl (Exists.intro _ (Exists.intro _ (Exists.intro _ (And.intro rfl (And.intro rfl (And.intro ?_ (And.intro ?_ (And.intro ?_ (And.intro ?_ (And.intro ?_ ?_)))))))))))))) <;> (first | omega | exact hA | exact N1 _ _ (by assumption) | (dsimp only at *; omega) | (have := N2 _ _ (by assumption); (try dsimp only at *); omega) | ((try dsimp only at *) <;> (try simp only [hs_up_r, Nat.reduceBEq, cond_true, cond_false, Int.reduceToNat, not_true_eq_false, not_false_eq_true, true_and, and_true] at *) <;> omega))))
  · cases h
def E_31Q : hs_E := hs_ad E_30Q 129 t_rowQ
theorem e_31Q : ∀ K, hs_C hs_sh K (E_31Q K) := hs_ad_ok e_30Q c_rowQ

/-! ===== the reference's parser: a clause ===== -/
def cl_ok (A : Nat → Nat → Int) (N : Int) (c : Nat) : Prop := (0 ≤ A 7 (8 * c + 1) ∧ A 7 (8 * c + 1) ≤ 19) ∧ (0 ≤ A 7 (8 * c + 2) ∧ A 7 (8 * c + 2) ≤ 11) ∧ A 7 (8 * c + 4) ≤ N ∧ A 7 (8 * c + 6) ≤ N ∧ rt_seg (A 8) (A 9) (A 7 (8 * c + 3)) (A 7 (8 * c + 4)) ∧ rt_seg (A 8) (A 9) (A 7 (8 * c + 5)) (A 7 (8 * c + 6))
abbrev hs_QF : List Nat := [17, 11, 12, 13, 14, 15, 16, 19, 22, 25, 26]
def rb (S : hs_S) (F : Nat → Int) (A : Nat → Nat → Int) : Prop := hs_fr hs_QF S.1 F ∧ pe F ∧ S.1 11 < F 11 ∧ (∀ k, ¬ k = 7 → ¬ k = 8 → ¬ k = 9 → ¬ k = 10 → ¬ k = 11 → A k = S.2 k) ∧ (F 16 = 0 → S.1 19 ≤ F 19 ∧ (∀ j, j < (S.1 19).toNat → A 8 j = S.2 8 j ∧ A 9 j = S.2 9 j) ∧ ∀ i : Nat, (i : Int) < 8 * S.1 17 → A 7 i = S.2 7 i)
def ry (S : hs_S) (F : Nat → Int) (A : Nat → Nat → Int) : Prop := hs_fr hs_QF S.1 F ∧ pe F ∧ S.1 11 ≤ F 11 ∧ (∀ k, ¬ k = 7 → ¬ k = 8 → ¬ k = 9 → ¬ k = 10 → ¬ k = 11 → A k = S.2 k) ∧ (0 ≤ F 17 ∧ F 17 ≤ 12) ∧ (F 16 = 0 → S.1 11 < F 11 ∧ F 17 = S.1 17 + 1 ∧ S.1 19 ≤ F 19 ∧ (∀ j, j < (S.1 19).toNat → A 8 j = S.2 8 j ∧ A 9 j = S.2 9 j) ∧ (∀ i : Nat, (i : Int) < 8 * S.1 17 → A 7 i = S.2 7 i) ∧ cl_ok A (F 19) (S.1 17).toNat)
theorem rb.put {S : hs_S} {F : Nat → Int} {A : Nat → Nat → Int} {i : Nat} {v : Int} (h : rb S F A) (hi : 8 * S.1 17 ≤ (i : Int)) : rb S F (hs_ua A 7 i v) := by
  obtain ⟨h1, h2, h3, h4, h5⟩ := h
  refine ⟨h1, h2, h3, fun k a b c d e => by rw [hs_ua_ne a]; exact h4 k a b c d e, fun hb => ?_⟩
  obtain ⟨g1, g2, g3⟩ := h5 hb
  exact ⟨g1, fun j hj => by rw [hs_ua_ne (by decide), hs_ua_ne (by decide)]; exact g2 j hj, fun j hj => by rw [hs_ua_k, if_neg (by omega)]; exact g3 j hj⟩
theorem pe.nx {F : Nat → Int} {a b c d : Int} (h : pe F) (h13 : ¬ F 13 = 0) (n1 : F 12 ≤ a) (n2 : a ≤ b) (n3 : b ≤ F 10) (n4 : 0 ≤ c) (n5 : c ≤ 3) (n6 : c = 0 → a = F 10) (n7 : ¬ c = 0 → a < b) : pe (hs_up (hs_up (hs_up (hs_up F 11 a) 12 b) 13 c) 14 d) ∧ F 11 < a := by
  obtain ⟨h1, h2, h3, h4, h5, h6, h7, h8⟩ := h
  have := h4 h13
  exact ⟨⟨⟨h1.1, (by show 0 ≤ a; omega), n2, n3⟩, ⟨n4, n5⟩, n6, n7, h5, h6, h7, (by show F 19 ≤ a; omega)⟩, by omega⟩
theorem pe.bad {F : Nat → Int} {w : Int} (h : pe F) : pe (hs_up (hs_up F 16 1) 15 w) := by
  obtain ⟨h1, h2, h3, h4, h5, h6, h7, h8⟩ := h
  exact ⟨h1, h2, h3, h4, Or.inr rfl, h6, h7, h8⟩
theorem rb.nx {S : hs_S} {F : Nat → Int} {A : Nat → Nat → Int} {a b c d : Int} (h : rb S F A) (h13 : ¬ F 13 = 0) (n1 : F 12 ≤ a) (n2 : a ≤ b) (n3 : b ≤ F 10) (n4 : 0 ≤ c) (n5 : c ≤ 3) (n6 : c = 0 → a = F 10) (n7 : ¬ c = 0 → a < b) : rb S (hs_up (hs_up (hs_up (hs_up F 11 a) 12 b) 13 c) 14 d) A := by
  obtain ⟨h1, h2, h3, h4, h5⟩ := h
  obtain ⟨g1, g2⟩ := h2.nx (d := d) h13 n1 n2 n3 n4 n5 n6 n7
  exact ⟨hs_fr.up rfl (hs_fr.up rfl (hs_fr.up rfl (hs_fr.up rfl h1))), g1, (by show S.1 11 < a; omega), h4, h5⟩
theorem rb.bad {S : hs_S} {F : Nat → Int} {A : Nat → Nat → Int} {w : Int} (h : rb S F A) : rb S (hs_up (hs_up F 16 1) 15 w) A := by
  obtain ⟨h1, h2, h3, h4, h5⟩ := h
  exact ⟨hs_fr.up rfl (hs_fr.up rfl h1), h2.bad, h3, h4, fun hb => absurd (show (1 : Int) = 0 from hb) (by decide)⟩
theorem rb.more {S : hs_S} {F : Nat → Int} {A : Nat → Nat → Int} {v : Int} (h : rb S F A) : rb S (hs_up F 17 v) A := by
  obtain ⟨h1, h2, h3, h4, h5⟩ := h
  exact ⟨hs_fr.up rfl h1, h2, h3, h4, h5⟩
theorem rb.exp {S : hs_S} {F F' : Nat → Int} {A A' : Nat → Nat → Int} (h : rb S F A) (hb : F 16 = 0) (hr : rx (F, A) F' A') : rb S F' A' ∧ F' 17 = F 17 ∧ A' 7 = A 7 := by
  obtain ⟨h1, h2, h3, h4, h5⟩ := h
  obtain ⟨r1, r2, r3, r4, r5⟩ := hr
  have r3' : F 11 ≤ F' 11 := r3
  refine ⟨⟨h1.tr (r1.wk rfl), r2, by omega, fun k a b c d e => (r4 k b c d e).trans (h4 k a b c d e), fun hb' => ?_⟩, r1 17 rfl, r4 7 (by decide) (by decide) (by decide) (by decide)⟩
  obtain ⟨q1, q2, q3⟩ := h5 hb
  obtain ⟨q4, q5, q6⟩ := r5 hb'
  have q4' : F 19 ≤ F' 19 := q4
  have q5' : ∀ k, k < (F 19).toNat → A' 8 k = A 8 k ∧ A' 9 k = A 9 k := q5
  refine ⟨by omega, fun j hj => ?_, fun i hi => by rw [r4 7 (by decide) (by decide) (by decide) (by decide)]; exact q3 i hi⟩
  have g1 := q2 j hj
  have g2 := q5' j (by omega)
  exact ⟨g2.1.trans g1.1, g2.2.trans g1.2⟩
theorem rb.end_bad {S : hs_S} {F : Nat → Int} {A : Nat → Nat → Int} (h : rb S F A) (hb : ¬ F 16 = 0) (h17 : 0 ≤ F 17 ∧ F 17 ≤ 12) : ry S F A := ⟨h.1, h.2.1, Int.le_of_lt h.2.2.1, h.2.2.2.1, h17, fun q => absurd q hb⟩
theorem rb.end_ok {S : hs_S} {F : Nat → Int} {A : Nat → Nat → Int} (h : rb S F A) (h17 : F 17 = S.1 17 + 1) (h0 : 0 ≤ S.1 17 ∧ S.1 17 < 12) (hc : F 16 = 0 → cl_ok A (F 19) (S.1 17).toNat) : ry S F A := ⟨h.1, h.2.1, Int.le_of_lt h.2.2.1, h.2.2.2.1, by omega, fun q => ⟨h.2.2.1, h17, (h.2.2.2.2 q).1, (h.2.2.2.2 q).2.1, (h.2.2.2.2 q).2.2, hc q⟩⟩
/-- what a clause's second and third number may be -/
def c12 (S : hs_S) (A : Nat → Nat → Int) : Prop := (0 ≤ A 7 (8 * (S.1 17).toNat + 1) ∧ A 7 (8 * (S.1 17).toNat + 1) ≤ 19) ∧ (0 ≤ A 7 (8 * (S.1 17).toNat + 2) ∧ A 7 (8 * (S.1 17).toNat + 2) ≤ 11)
def i_cl (S : hs_S) (hd : Int) (k h : Nat) (F : Nat → Int) (A : Nat → Nat → Int) : Prop := match h with
  | 67 => F 16 = 0 ∧ F 17 = S.1 17 ∧ (∀ j, j < 8 → A 7 (8 * (S.1 17).toNat + j) = 0) ∧ 50 ≤ k
  | 153 => F 17 = S.1 17 + 1 ∧ (5 ≤ hd → F 16 = 0) ∧ (F 16 = 0 → c12 S A) ∧ 40 ≤ k
  | 175 => F 17 = S.1 17 + 1 ∧ (F 16 = 0 → c12 S A ∧ rt_seg (A 8) (A 9) (A 7 (8 * (S.1 17).toNat + 3)) (F 19)) ∧ 30 ≤ k
  | 225 => F 17 = S.1 17 + 1 ∧ (F 16 = 0 → c12 S A ∧ A 7 (8 * (S.1 17).toNat + 4) ≤ F 19 ∧ rt_seg (A 8) (A 9) (A 7 (8 * (S.1 17).toNat + 3)) (A 7 (8 * (S.1 17).toNat + 4)) ∧ rt_seg (A 8) (A 9) (A 7 (8 * (S.1 17).toNat + 5)) (F 19)) ∧ 20 ≤ k
  | _ => False
theorem c12.put {S : hs_S} {A : Nat → Nat → Int} {i : Nat} {v : Int} (h : c12 S A) (h1 : ¬ 8 * (S.1 17).toNat + 1 = i) (h2 : ¬ 8 * (S.1 17).toNat + 2 = i) : c12 S (hs_ua A 7 i v) := by
  unfold c12 at h ⊢
  rw [hs_ua_k, hs_ua_k, if_neg h1, if_neg h2]
  exact h
def t_readClause : hs_T := fun as S post => match as with
  | [(4, z)] => z = 0 ∧ S.1 16 = 0 ∧ hs_o (pe S.1) ∧ (0 ≤ S.1 17 ∧ S.1 17 ≤ 12) ∧ ∀ F A, ry S F A → post [] (F, A)
  | _ => False
theorem c_readClause : hs_C hs_sh 123 t_readClause := by
  refine hs_met (nL := 4) (n0 := 60) (n := 120) [] [46, 67, 153, 175, 225] e_11 (by decide +kernel) rfl rfl ?_
  intro as S post h
  unfold t_readClause at h
  split at h
  · obtain ⟨rfl, hbad, ⟨-, hpe⟩, h17, hp⟩ := h
    have hpe0 := hpe
    obtain ⟨e1, e2, e3, e4, e5, e6, e7, e8⟩ := hpe
    refine ⟨Nat.le_of_ble_eq_true rfl, fun hh k g st S' => st = [] ∧ (S.1 17 < 12) ∧ ∃ hd F A, S' = (F, A) ∧ (0 ≤ hd ∧ hd ≤ 7) ∧ rb S F A ∧ ((hh = 46 ∧ ∃ i : Nat, g = [(0, (4, 0)), (1, (0, hd)), (2, (0, 8 * S.1 17)), (3, (0, (i : Int)))] ∧ i ≤ 8 ∧ F 16 = 0 ∧ F 17 = S.1 17 ∧ (∀ j, j < i → A 7 (8 * (S.1 17).toNat + j) = 0) ∧ 100 + (8 - i) ≤ k) ∨ (g = [(0, (4, 0)), (1, (0, hd)), (2, (0, 8 * S.1 17))] ∧ i_cl S hd k hh F A)), ?_, ?_⟩
    · have KB : ∀ w, post [] (hs_up (hs_up S.1 16 1) 15 w, S.2) := fun w => hp _ _ ⟨hs_fr.up rfl (hs_fr.up rfl hs_fr.rf), hpe0.bad, Int.le_refl _, fun _ _ _ _ _ _ => rfl, h17, fun hb => absurd (show (1 : Int) = 0 from hb) (by decide)⟩
      have KN : ¬ S.1 13 = 0 → ∀ a b c d, S.1 12 ≤ a → a ≤ b → b ≤ S.1 10 → 0 ≤ c → c ≤ 3 → (c = 0 → a = S.1 10) → (¬ c = 0 → a < b) →  rb S (hs_up (hs_up (hs_up (hs_up S.1 11 a) 12 b) 13 c) 14 d) S.2 := fun h2 a b c d n1 n2 n3 n4 n5 n6 n7 => by
        obtain ⟨g1, g2⟩ := hpe0.nx (d := d) h2 n1 n2 n3 n4 n5 n6 n7
        exact ⟨hs_fr.up rfl (hs_fr.up rfl (hs_fr.up rfl (hs_fr.up rfl hs_fr.rf))), g1, g2, fun _ _ _ _ _ _ => rfl, fun _ => ⟨Int.le_refl _, fun _ _ => ⟨rfl, rfl⟩, fun _ _ => rfl⟩⟩
      repeat' (first | (refine And.intro ?_ ?_) | (intro _))
      all_goals (first | omega | (dsimp only at *; omega) | exact KB _ | ((try dsimp only at *) <;> (try simp only [hs_up_r, Nat.reduceBEq, cond_true, cond_false, Int.reduceToNat, not_true_eq_false, not_false_eq_true, true_and, and_true] at *) <;> omega) | (refine Exists.intro 1000 (Exists.intro [(0, (4, 0)), (1, (0, _)), (2, (0, (8 * S.1 17))), (3, (0, ((0 : Nat) : Int)))] (And.intro (And.intro rfl (And.intro rfl (And.intro rfl (And.intro rfl (trivial))))) (And.intro rfl (And.intro ?_ (Exists.intro _ (Exists.intro _ (Exists.intro _ (And.intro rfl (And.intro ?_ (And.intro (KN ?_ _ _ _ _ ?_ ?_ ?_ ?_ ?_ ?_ ?_) (Or.inl (And.intro rfl (Exists.intro 0 (And.intro rfl (And.intro (by omega) (And.intro hbad (And.intro rfl (And.intro (fun j hj => absurd hj (by omega)) (by omega))))))))))))))))))) <;> first | omega | (dsimp only at *; omega) | ((try dsimp only at *) <;> (try simp only [hs_up_r, Nat.reduceBEq, cond_true, cond_false, Int.reduceToNat, not_true_eq_false, not_false_eq_true, true_and, and_true] at *) <;> omega)))
    · intro hh hm
      have i0 : (8 * S.1 17).toNat = 8 * (S.1 17).toNat := by omega
      have i1 : (8 * S.1 17 + 1).toNat = 8 * (S.1 17).toNat + 1 := by omega
      have i2 : (8 * S.1 17 + 2).toNat = 8 * (S.1 17).toNat + 2 := by omega
      have i3 : (8 * S.1 17 + 3).toNat = 8 * (S.1 17).toNat + 3 := by omega
      have i4 : (8 * S.1 17 + 4).toNat = 8 * (S.1 17).toNat + 4 := by omega
      have i5 : (8 * S.1 17 + 5).toNat = 8 * (S.1 17).toNat + 5 := by omega
      have i6 : (8 * S.1 17 + 6).toNat = 8 * (S.1 17).toNat + 6 := by omega
      have KE : ∀ F A, rb S F A → ¬ F 16 = 0 → F 17 = S.1 17 + 1 → S.1 17 < 12 → post [] (F, A) := fun F A h1 h2 h3 h4 => hp F A (h1.end_bad h2 (by omega))
      simp only [List.mem_cons, List.not_mem_nil, or_false] at hm
      rcases hm with rfl | rfl | rfl | rfl | rfl
      · -- 46
        intro k g st S' hI
        obtain ⟨rfl, h12, hd, F, A, rfl, hhd, hrb, hor⟩ := hI
        rcases hor with ⟨-, i, rfl, hi, b16, b17, bz, bk⟩ | ⟨rfl, hc⟩
        · refine And.intro (fun g1 => ?_) (fun g1 => ?_)
          · have g2 : (8 : Int) ≤ i := g1
            exact Exists.intro 50 (And.intro (by omega) (Exists.intro [(0, (4, 0)), (1, (0, hd)), (2, (0, (8 * S.1 17)))] (And.intro (And.intro rfl (And.intro rfl (And.intro rfl (trivial)))) (And.intro rfl (And.intro h12 (Exists.intro hd (Exists.intro F (Exists.intro A (And.intro rfl (And.intro hhd (And.intro hrb (Or.inr (And.intro rfl (And.intro b16 (And.intro b17 (And.intro (fun j hj => bz j (by omega)) (Nat.le_refl _)))))))))))))))))
          · have g2 : ¬ (8 : Int) ≤ i := g1
            refine And.intro ?_ (And.intro ?_ (And.intro ?_ (Exists.intro (k - 1) (And.intro (by omega) (Exists.intro [(0, (4, 0)), (1, (0, hd)), (2, (0, (8 * S.1 17))), (3, (0, ((i + 1 : Nat) : Int)))] (And.intro (And.intro rfl (And.intro rfl (And.intro rfl (And.intro rfl (trivial))))) (And.intro rfl (And.intro h12 (Exists.intro hd (Exists.intro F (Exists.intro (hs_ua A 7 (8 * S.1 17 + (i : Int)).toNat 0) (And.intro rfl (And.intro hhd (And.intro (hrb.put (by omega)) (Or.inl (And.intro rfl (Exists.intro (i + 1) (And.intro rfl (And.intro (by omega) (And.intro b16 (And.intro b17 (And.intro (fun j hj => by rw [hs_ua_k]; by_cases e : 8 * (S.1 17).toNat + j = (8 * S.1 17 + (i : Int)).toNat; rw [if_pos e]; rw [if_neg e]; exact bz j (by omega)) (by omega)))))))))))))))))))))))
            · show -2147483648 ≤ 8 * S.1 17 + (i : Int) ∧ 8 * S.1 17 + (i : Int) ≤ 2147483647
              omega
            · show 0 ≤ 8 * S.1 17 + (i : Int) ∧ 8 * S.1 17 + (i : Int) < (96 : Nat)
              omega
            · show -2147483648 ≤ (i : Int) + 1 ∧ (i : Int) + 1 ≤ 2147483647
              omega
        · exact hc.elim
      · -- 67
        intro k g st S' hI
        obtain ⟨rfl, h12, hd, F, A, rfl, hhd, hrb, hor⟩ := hI
        rcases hor with ⟨e, -⟩ | ⟨rfl, b16, b17, bz, bk⟩
        · exact absurd e (by decide)
        obtain ⟨p1, p2, p3, p4, p5, p6, p7, p8⟩ := hrb.2.1
        have rb1 : rb S (hs_up F 17 (F 17 + 1)) (hs_ua A 7 (8 * S.1 17).toNat hd) := (hrb.put (by omega)).more
        have z1 : ∀ j, 0 < j → j < 8 → hs_ua A 7 (8 * S.1 17).toNat hd 7 (8 * (S.1 17).toNat + j) = 0 := fun j h0 h1 => by
          rw [hs_ua_k, if_neg (by omega)]
          exact bz j h1
        have K153 : ∀ F' A', rb S F' A' → F' 17 = S.1 17 + 1 → (5 ≤ hd → F' 16 = 0) → (F' 16 = 0 → c12 S A') → ∃ k', k' < k ∧ hs_J (fun g st S' => st = [] ∧ (S.1 17 < 12) ∧ ∃ hd F A, S' = (F, A) ∧ (0 ≤ hd ∧ hd ≤ 7) ∧ rb S F A ∧ ((153 = 46 ∧ ∃ i : Nat, g = [(0, (4, 0)), (1, (0, hd)), (2, (0, 8 * S.1 17)), (3, (0, (i : Int)))] ∧ i ≤ 8 ∧ F 16 = 0 ∧ F 17 = S.1 17 ∧ (∀ j, j < i → A 7 (8 * (S.1 17).toNat + j) = 0) ∧ 100 + (8 - i) ≤ k') ∨ (g = [(0, (4, 0)), (1, (0, hd)), (2, (0, 8 * S.1 17))] ∧ i_cl S hd k' 153 F A))) [(0, (4, 0)), (1, (0, hd)), (2, (0, 8 * S.1 17))] [] (F', A') := fun F' A' h1 h2 h3 h4 => ⟨40, by omega, [(0, (4, 0)), (1, (0, hd)), (2, (0, 8 * S.1 17))], ⟨rfl, rfl, rfl, trivial⟩, rfl, h12, hd, F', A', rfl, hhd, h1, Or.inr ⟨rfl, h2, h3, h4, Nat.le_refl _⟩⟩
        refine And.intro ?_ (And.intro ?_ (And.intro (fun d0 => ?_) (fun d0 => ?_)))
        · show 0 ≤ 8 * S.1 17 ∧ 8 * S.1 17 < (96 : Nat)
          omega
        · show -2147483648 ≤ F 17 + 1 ∧ F 17 + 1 ≤ 2147483647
          omega
        · have d1 : ¬ hd = 0 := d0
          refine And.intro (fun d2 => ?_) (fun d2 => ?_)
          · have d3 : ¬ hd = 3 := d2
            refine K153 _ (hs_ua A 7 (8 * S.1 17).toNat hd) rb1 (by show F 17 + 1 = _; omega) (fun _ => b16) (fun _ => ?_)
            unfold c12
            rw [z1 1 (by decide) (by decide), z1 2 (by decide) (by decide)]
            omega
          · have d3 : hd = 3 := d2
            refine And.intro ?_ (And.intro rfl (And.intro ⟨by show 0 ≤ F 12; omega, p1.2.2.2, p1.1⟩ (And.intro p5 (And.intro (by decide) (And.intro (fun hb => ?_) (And.intro (fun hb v w => ?_) (fun hb v a b c d v1 v2 v3 n1 n2 n3 n4 n5 n6 n7 => ?_)))))))
            · show -2147483648 ≤ 8 * S.1 17 + 1 ∧ 8 * S.1 17 + 1 ≤ 2147483647
              omega
            · have hb' : F 16 = 1 := hb
              omega
            · refine And.intro ?_ (K153 _ (hs_ua (hs_ua A 7 (8 * S.1 17).toNat hd) 7 (8 * S.1 17 + 1).toNat v) (rb1.bad.put (by omega)) (by show F 17 + 1 = _; omega) (fun h5 => by omega) (fun h5 => absurd (show (1 : Int) = 0 from h5) (by decide)))
              show 0 ≤ 8 * S.1 17 + 1 ∧ 8 * S.1 17 + 1 < (96 : Nat)
              omega
            · have v3' : F 13 = 2 := v3
              refine And.intro ?_ (K153 _ (hs_ua (hs_ua A 7 (8 * S.1 17).toNat hd) 7 (8 * S.1 17 + 1).toNat v) ((rb1.nx (d := d) (by show ¬ F 13 = 0; omega) n1 n2 n3 n4 n5 n6 n7).put (by omega)) (by show F 17 + 1 = _; omega) (fun h5 => by omega) (fun _ => ?_))
              · show 0 ≤ 8 * S.1 17 + 1 ∧ 8 * S.1 17 + 1 < (96 : Nat)
                omega
              · have y1 : hs_ua (hs_ua A 7 (8 * S.1 17).toNat hd) 7 (8 * S.1 17 + 1).toNat v 7 (8 * (S.1 17).toNat + 1) = v := by rw [hs_ua_k, if_pos i1.symm]
                have y2 : hs_ua (hs_ua A 7 (8 * S.1 17).toNat hd) 7 (8 * S.1 17 + 1).toNat v 7 (8 * (S.1 17).toNat + 2) = 0 := by
                  rw [hs_ua_k, if_neg (by omega)]
                  exact z1 2 (by decide) (by decide)
                unfold c12
                rw [y1, y2]
                have v1' : (0 : Int) ≤ v := v1
                have v2' : v ≤ 9 := v2
                omega
        · have d1 : hd = 0 := d0
          -- the end of a strike whose reading has gone wrong
          have KT : ∀ F' A', rb S F' A' → F' 16 = 1 → F' 17 = S.1 17 + 1 → post [] (F', A') := fun F' A' h1 h2 h3 => KE F' A' h1 (by omega) h3 h12
          have KZ : ∀ F' v w, rb S F' (hs_ua (hs_ua (hs_ua A 7 (8 * S.1 17).toNat hd) 7 (8 * S.1 17 + 1).toNat v) 7 (8 * S.1 17 + 2).toNat w) → (0 ≤ v ∧ v ≤ 19) → (0 ≤ w ∧ w ≤ 11) → 0 ≤ F' 19 → F' 17 = S.1 17 + 1 → post [] (F', hs_ua (hs_ua (hs_ua A 7 (8 * S.1 17).toNat hd) 7 (8 * S.1 17 + 1).toNat v) 7 (8 * S.1 17 + 2).toNat w) := fun F' v w h1 h2 h3 h4 h5 => by
            refine hp _ _ (h1.end_ok h5 ⟨h17.1, h12⟩ (fun _ => ?_))
            have zz : ∀ j, 2 < j → j < 8 → hs_ua (hs_ua (hs_ua A 7 (8 * S.1 17).toNat hd) 7 (8 * S.1 17 + 1).toNat v) 7 (8 * S.1 17 + 2).toNat w 7 (8 * (S.1 17).toNat + j) = 0 := fun j j0 j1 => by
              rw [hs_ua_k, if_neg (by omega), hs_ua_k, if_neg (by omega)]
              exact z1 j (by omega) j1
            have y1 : hs_ua (hs_ua (hs_ua A 7 (8 * S.1 17).toNat hd) 7 (8 * S.1 17 + 1).toNat v) 7 (8 * S.1 17 + 2).toNat w 7 (8 * (S.1 17).toNat + 1) = v := by rw [hs_ua_k, if_neg (by omega), hs_ua_k, if_pos i1.symm]
            have y2 : hs_ua (hs_ua (hs_ua A 7 (8 * S.1 17).toNat hd) 7 (8 * S.1 17 + 1).toNat v) 7 (8 * S.1 17 + 2).toNat w 7 (8 * (S.1 17).toNat + 2) = w := by rw [hs_ua_k, if_pos i2.symm]
            unfold cl_ok
            rw [y1, y2, zz 3 (by decide) (by decide), zz 4 (by decide) (by decide), zz 5 (by decide) (by decide), zz 6 (by decide) (by decide)]
            exact ⟨h2, h3, h4, h4, rt_seg_nil (by decide) (by decide), rt_seg_nil (by decide) (by decide)⟩
          have B1 : 0 ≤ 8 * S.1 17 + 1 ∧ 8 * S.1 17 + 1 < ((96 : Nat) : Int) := by omega
          have B2 : 0 ≤ 8 * S.1 17 + 2 ∧ 8 * S.1 17 + 2 < ((96 : Nat) : Int) := by omega
          have B3 : -2147483648 ≤ 8 * S.1 17 + 1 ∧ 8 * S.1 17 + 1 ≤ 2147483647 := by omega
          have B4 : -2147483648 ≤ 8 * S.1 17 + 2 ∧ 8 * S.1 17 + 2 ≤ 2147483647 := by omega
          refine And.intro B3 (And.intro rfl (And.intro ⟨by show 0 ≤ F 12; omega, p1.2.2.2, p1.1⟩ (And.intro p5 (And.intro (by decide) (And.intro (fun hb => ?_) (And.intro (fun hb v w => ?_) (fun hb v a b c d v1 v2 v3 n1 n2 n3 n4 n5 n6 n7 => ?_)))))))
          · have hb' : F 16 = 1 := hb
            omega
          · refine And.intro B1 (And.intro rfl (fun r hr => And.intro rfl (And.intro ⟨by show 0 ≤ F 12; omega, p1.2.2.2, p1.1⟩ (And.intro (Or.inr rfl) (And.intro (fun _ => ?_) (And.intro (fun hc _ => absurd (show (1 : Int) = 0 from hc) (by decide)) (fun hc _ => absurd (show (1 : Int) = 0 from hc) (by decide))))))))
            refine And.intro B4 (And.intro rfl (And.intro ⟨by show 0 ≤ F 12; omega, p1.2.2.2, p1.1⟩ (And.intro (Or.inr rfl) (And.intro (by decide) (And.intro (fun _ v' => And.intro B2 (KT _ _ ((rb1.bad.put (by omega)).put (by omega)) rfl (by show F 17 + 1 = _; omega))) (And.intro (fun hc => absurd (show (1 : Int) = 0 from hc) (by decide)) (fun hc => absurd (show (1 : Int) = 0 from hc) (by decide))))))))
          · have v3' : F 13 = 2 := v3
            have rb2 := rb1.nx (d := d) (by show ¬ F 13 = 0; omega) n1 n2 n3 n4 n5 n6 n7
            have pe2 := rb2.2.1
            have L2 : 0 ≤ b ∧ b ≤ F 10 ∧ F 10 ≤ 400 := ⟨by have := p4 (by omega); have : F 12 ≤ a := n1; omega, n3, p1.1⟩
            refine And.intro B1 (And.intro rfl (fun r hr => And.intro rfl (And.intro L2 (And.intro p5 (And.intro (fun hc => ?_) (And.intro (fun hc _ w => ?_) (fun hc hr0 a' b' c' d' m1 m2 m3 m4 m5 m6 m7 => ?_)))))))
            · have hc' : F 16 = 1 := hc
              omega
            · refine And.intro B4 (And.intro rfl (And.intro L2 (And.intro (Or.inr rfl) (And.intro (by decide) (And.intro (fun _ v' => And.intro B2 (KT _ _ (((rb2.put (by omega)).bad).put (by omega)) rfl (by show F 17 + 1 = _; omega))) (And.intro (fun hc => absurd (show (1 : Int) = 0 from hc) (by decide)) (fun hc => absurd (show (1 : Int) = 0 from hc) (by decide))))))))
            · have hr' : c = 1 := by
                rcases hr with e | ⟨-, e⟩
                · exact absurd e hr0
                · exact e
              have rb3 := (rb2.put (v := v) (i := (8 * S.1 17 + 1).toNat) (by omega)).nx (d := d') (by show ¬ c = 0; omega) m1 m2 m3 m4 m5 m6 m7
              have L3 : 0 ≤ b' ∧ b' ≤ F 10 ∧ F 10 ≤ 400 := ⟨by have : b ≤ a' := m1; omega, m3, p1.1⟩
              refine And.intro B4 (And.intro rfl (And.intro L3 (And.intro p5 (And.intro (by decide) (And.intro (fun hc => ?_) (And.intro (fun hc v' w' => ?_) (fun hc v' a2 b2 c2 d2 u1 u2 u3 q1 q2 q3 q4 q5 q6 q7 => ?_)))))))
              · have hc' : F 16 = 1 := hc
                omega
              · exact And.intro B2 (KT _ _ (rb3.bad.put (by omega)) rfl (by show F 17 + 1 = _; omega))
              · have u3' : c' = 2 := u3
                exact And.intro B2 (KZ _ v v' ((rb3.nx (d := d2) (by show ¬ c' = 0; omega) q1 q2 q3 q4 q5 q6 q7).put (by omega)) ⟨v1, v2⟩ ⟨u1, u2⟩ p7 (by show F 17 + 1 = _; omega))
      · -- 153
        intro k g st S' hI
        obtain ⟨rfl, h12, hd, F, A, rfl, hhd, hrb, hor⟩ := hI
        rcases hor with ⟨e, -⟩ | ⟨rfl, b17, b16, bc, bk⟩
        · exact absurd e (by decide)
        obtain ⟨p1, p2, p3, p4, p5, p6, p7, p8⟩ := hrb.2.1
        have rb1 : rb S F (hs_ua A 7 (8 * S.1 17 + 3).toNat (F 19)) := hrb.put (by omega)
        have x3 : hs_ua A 7 (8 * S.1 17 + 3).toNat (F 19) 7 (8 * (S.1 17).toNat + 3) = F 19 := by rw [hs_ua_k, if_pos i3.symm]
        have KC : ∀ F' A', rb S F' A' → i_cl S hd 30 175 F' A' → ∃ k', k' < k ∧ hs_J (fun g st S' => st = [] ∧ (S.1 17 < 12) ∧ ∃ hd F A, S' = (F, A) ∧ (0 ≤ hd ∧ hd ≤ 7) ∧ rb S F A ∧ ((175 = 46 ∧ ∃ i : Nat, g = [(0, (4, 0)), (1, (0, hd)), (2, (0, 8 * S.1 17)), (3, (0, (i : Int)))] ∧ i ≤ 8 ∧ F 16 = 0 ∧ F 17 = S.1 17 ∧ (∀ j, j < i → A 7 (8 * (S.1 17).toNat + j) = 0) ∧ 100 + (8 - i) ≤ k') ∨ (g = [(0, (4, 0)), (1, (0, hd)), (2, (0, 8 * S.1 17))] ∧ i_cl S hd k' 175 F A))) [(0, (4, 0)), (1, (0, hd)), (2, (0, 8 * S.1 17))] [] (F', A') := fun F' A' h1 h2 => ⟨30, by omega, [(0, (4, 0)), (1, (0, hd)), (2, (0, 8 * S.1 17))], ⟨rfl, rfl, rfl, trivial⟩, rfl, h12, hd, F', A', rfl, hhd, h1, Or.inr ⟨rfl, h2⟩⟩
        refine And.intro ?_ (And.intro ?_ (And.intro (fun d0 => ?_) (fun d0 => ?_)))
        · show -2147483648 ≤ 8 * S.1 17 + 3 ∧ 8 * S.1 17 + 3 ≤ 2147483647
          omega
        · show 0 ≤ 8 * S.1 17 + 3 ∧ 8 * S.1 17 + 3 < (96 : Nat)
          omega
        · refine KC F (hs_ua A 7 (8 * S.1 17 + 3).toNat (F 19)) rb1 ⟨b17, fun hb => ⟨(bc hb).put (by omega) (by omega), ?_⟩, Nat.le_refl _⟩
          rw [x3]
          exact rt_seg_nil p7 (by omega)
        · have d1 : 5 ≤ hd := by
            have : ¬ hd < 5 := d0
            omega
          have hb := b16 d1
          refine And.intro rfl (And.intro hb (And.intro (hs_o.of hrb.2.1) (fun F' A' hr => ?_)))
          obtain ⟨r1, r2, r3⟩ := rb1.exp hb hr
          refine KC F' A' r1 ⟨r2.trans b17, fun hb' => ⟨?_, ?_⟩, Nat.le_refl _⟩
          · have := (bc hb).put (v := F 19) (i := (8 * S.1 17 + 3).toNat) (by omega) (by omega)
            unfold c12 at this ⊢
            rw [r3]
            exact this
          · rw [r3, x3]
            exact (hr.2.2.2.2 hb').2.2
      · -- 175
        intro k g st S' hI
        obtain ⟨rfl, h12, hd, F, A, rfl, hhd, hrb, hor⟩ := hI
        rcases hor with ⟨e, -⟩ | ⟨rfl, b17, bc, bk⟩
        · exact absurd e (by decide)
        obtain ⟨p1, p2, p3, p4, p5, p6, p7, p8⟩ := hrb.2.1
        have rb1 : rb S F (hs_ua (hs_ua A 7 (8 * S.1 17 + 4).toNat (F 19)) 7 (8 * S.1 17 + 5).toNat (F 19)) := (hrb.put (by omega)).put (by omega)
        generalize hA1 : hs_ua (hs_ua A 7 (8 * S.1 17 + 4).toNat (F 19)) 7 (8 * S.1 17 + 5).toNat (F 19) = A1 at rb1
        have x5 : A1 7 (8 * (S.1 17).toNat + 5) = F 19 := by rw [← hA1, hs_ua_k, if_pos i5.symm]
        have x4 : A1 7 (8 * (S.1 17).toNat + 4) = F 19 := by rw [← hA1, hs_ua_k, if_neg (by omega), hs_ua_k, if_pos i4.symm]
        have x3 : A1 7 (8 * (S.1 17).toNat + 3) = A 7 (8 * (S.1 17).toNat + 3) := by rw [← hA1, hs_ua_k, if_neg (by omega), hs_ua_k, if_neg (by omega)]
        have x12 : c12 S A → c12 S A1 := fun h => by rw [← hA1]; exact (h.put (by omega) (by omega)).put (by omega) (by omega)
        have x8 : A1 8 = A 8 := by rw [← hA1, hs_ua_ne (by decide), hs_ua_ne (by decide)]
        have x9 : A1 9 = A 9 := by rw [← hA1, hs_ua_ne (by decide), hs_ua_ne (by decide)]
        have KC : ∀ F' A', rb S F' A' → i_cl S hd 20 225 F' A' → ∃ k', k' < k ∧ hs_J (fun g st S' => st = [] ∧ (S.1 17 < 12) ∧ ∃ hd F A, S' = (F, A) ∧ (0 ≤ hd ∧ hd ≤ 7) ∧ rb S F A ∧ ((225 = 46 ∧ ∃ i : Nat, g = [(0, (4, 0)), (1, (0, hd)), (2, (0, 8 * S.1 17)), (3, (0, (i : Int)))] ∧ i ≤ 8 ∧ F 16 = 0 ∧ F 17 = S.1 17 ∧ (∀ j, j < i → A 7 (8 * (S.1 17).toNat + j) = 0) ∧ 100 + (8 - i) ≤ k') ∨ (g = [(0, (4, 0)), (1, (0, hd)), (2, (0, 8 * S.1 17))] ∧ i_cl S hd k' 225 F A))) [(0, (4, 0)), (1, (0, hd)), (2, (0, 8 * S.1 17))] [] (F', A') := fun F' A' h1 h2 => ⟨20, by omega, [(0, (4, 0)), (1, (0, hd)), (2, (0, 8 * S.1 17))], ⟨rfl, rfl, rfl, trivial⟩, rfl, h12, hd, F', A', rfl, hhd, h1, Or.inr ⟨rfl, h2⟩⟩
        have stay : i_cl S hd 20 225 F A1 := by
          refine ⟨b17, fun hb => ?_, Nat.le_refl _⟩
          obtain ⟨q1, q2⟩ := bc hb
          rw [x8, x9, x5, x4, x3]
          exact ⟨x12 q1, Int.le_refl _, q2, rt_seg_nil p7 (by omega)⟩
        refine And.intro ?_ (And.intro ?_ (And.intro ?_ (And.intro ?_ (And.intro (fun d0 => ?_) (fun d0 => ?_)))))
        · show -2147483648 ≤ 8 * S.1 17 + 4 ∧ 8 * S.1 17 + 4 ≤ 2147483647
          omega
        · show 0 ≤ 8 * S.1 17 + 4 ∧ 8 * S.1 17 + 4 < (96 : Nat)
          omega
        · show -2147483648 ≤ 8 * S.1 17 + 5 ∧ 8 * S.1 17 + 5 ≤ 2147483647
          omega
        · show 0 ≤ 8 * S.1 17 + 5 ∧ 8 * S.1 17 + 5 < (96 : Nat)
          omega
        · have := KC F A1 rb1 stay
          rw [← hA1] at this
          exact this
        · have hb : F 16 = 0 := d0
          refine And.intro rfl (fun r hr => And.intro (fun r0 => ?_) (fun r0 => ?_))
          · have := KC F A1 rb1 stay
            rw [← hA1] at this
            exact this
          · have h13 : F 13 = 1 := by
              rcases hr with e | ⟨-, e⟩
              · exact absurd e r0
              · exact e
            refine And.intro rfl (And.intro ⟨by show 0 ≤ F 12; omega, p1.2.2.2, p1.1⟩ (fun a b c d n1 n2 n3 n4 n5 n6 n7 => ?_))
            have rb2 := rb1.nx (d := d) (by omega) n1 n2 n3 n4 n5 n6 n7
            refine And.intro rfl (And.intro hb (And.intro (hs_o.of rb2.2.1) (fun F' A' hr' => ?_)))
            have hr2 : rx (hs_up (hs_up (hs_up (hs_up F 11 a) 12 b) 13 c) 14 d, A1) F' A' := by rw [← hA1]; exact hr'
            obtain ⟨r1, r2, r3⟩ := rb2.exp hb hr2
            have hr5 : F' 16 = 0 → F 19 ≤ F' 19 ∧ (∀ k, k < (F 19).toNat → A' 8 k = A1 8 k ∧ A' 9 k = A1 9 k) ∧ rt_seg (A' 8) (A' 9) (F 19) (F' 19) := hr2.2.2.2.2
            refine KC F' A' r1 ⟨r2.trans b17, fun hb' => ?_, Nat.le_refl _⟩
            obtain ⟨w1, w2, w3⟩ := hr5 hb'
            obtain ⟨q1, q2⟩ := bc hb
            have q1' := x12 q1
            unfold c12 at q1' ⊢
            rw [r3, x5, x4, x3]
            exact ⟨q1', w1, rt_seg_ext q2 (fun j hj => by rw [(w2 j (by omega)).1, x8]) (fun j hj => by rw [(w2 j (by omega)).2, x9]), w3⟩
      · -- 225
        intro k g st S' hI
        obtain ⟨rfl, h12, hd, F, A, rfl, hhd, hrb, hor⟩ := hI
        rcases hor with ⟨e, -⟩ | ⟨rfl, b17, bc, bk⟩
        · exact absurd e (by decide)
        have rb1 : rb S F (hs_ua A 7 (8 * S.1 17 + 6).toNat (F 19)) := hrb.put (by omega)
        refine And.intro ?_ (And.intro ?_ (hp F (hs_ua A 7 (8 * S.1 17 + 6).toNat (F 19)) (rb1.end_ok b17 ⟨h17.1, h12⟩ (fun hb => ?_))))
        · show -2147483648 ≤ 8 * S.1 17 + 6 ∧ 8 * S.1 17 + 6 ≤ 2147483647
          omega
        · show 0 ≤ 8 * S.1 17 + 6 ∧ 8 * S.1 17 + 6 < (96 : Nat)
          omega
        · obtain ⟨q1, q2, q3, q4⟩ := bc hb
          have x : ∀ j, j < 6 → hs_ua A 7 (8 * S.1 17 + 6).toNat (F 19) 7 (8 * (S.1 17).toNat + j) = A 7 (8 * (S.1 17).toNat + j) := fun j hj => by rw [hs_ua_k, if_neg (by omega)]
          have x6 : hs_ua A 7 (8 * S.1 17 + 6).toNat (F 19) 7 (8 * (S.1 17).toNat + 6) = F 19 := by rw [hs_ua_k, if_pos i6.symm]
          unfold cl_ok
          rw [x 1 (by decide), x 2 (by decide), x 3 (by decide), x 4 (by decide), x 5 (by decide), x6, hs_ua_ne (by decide), hs_ua_ne (by decide)]
          exact ⟨q1.1, q1.2, q2, Int.le_refl _, q3, q4⟩
  · cases h

/-! ===== the reference's parser: an expression ===== -/
def E_10 : hs_E := hs_ad (hs_ad E_9 37 t_behindTest) 36 t_behindSum
theorem e_10 : ∀ K, hs_C hs_sh K (E_10 K) := hs_ad_ok (hs_ad_ok e_9 c_behindTest) c_behindSum
/-- between expressions -/
def pe (F : Nat → Int) : Prop := (F 10 ≤ 400 ∧ 0 ≤ F 11 ∧ F 11 ≤ F 12 ∧ F 12 ≤ F 10) ∧ (0 ≤ F 13 ∧ F 13 ≤ 3) ∧ (F 13 = 0 → F 11 = F 10) ∧ (¬ F 13 = 0 → F 11 < F 12) ∧ (F 16 = 0 ∨ F 16 = 1) ∧ (0 ≤ F 22 ∧ F 22 ≤ 50) ∧ 0 ≤ F 19 ∧ F 19 ≤ F 11
def rx (S : hs_S) (F : Nat → Int) (A : Nat → Nat → Int) : Prop := hs_fr hs_PF S.1 F ∧ pe F ∧ S.1 11 ≤ F 11 ∧ (∀ k, ¬ k = 8 → ¬ k = 9 → ¬ k = 10 → ¬ k = 11 → A k = S.2 k) ∧ (F 16 = 0 → S.1 19 ≤ F 19 ∧ (∀ k, k < (S.1 19).toNat → A 8 k = S.2 8 k ∧ A 9 k = S.2 9 k) ∧ rt_seg (A 8) (A 9) (S.1 19) (F 19))
def t_readExpression : hs_T := fun as S post => match as with
  | [(4, z), (0, _)] => z = 0 ∧ S.1 16 = 0 ∧ hs_o (pe S.1) ∧ ∀ F A, rx S F A → post [] (F, A)
  | _ => False
def i_exp (S : hs_S) (k : Nat) (t : Int) (F : Nat → Int) (A : Nat → Nat → Int) : Prop := hs_fr hs_PF S.1 F ∧ ps F A ∧ tv (S.1 19).toNat t F A ∧ kp (S.1 19).toNat (F 16) S.2 A ∧ S.1 11 ≤ F 11 ∧ (0 ≤ t ∧ t ≤ 4) ∧ (F 16 = 0 → ¬ t = 4 → 1 + 2 * (400 - F 11) + (if t = 3 then 1 else 0) ≤ k)
theorem i_exp_step {S : hs_S} {k : Nat} {t t' : Int} {F F' : Nat → Int} {A A' : Nat → Nat → Int} {bb : Prop} (h : i_exp S k t F A) (hbad : F 16 = 0) (ht : ¬ t = 4) (hb : bb → t = 3) (hr : rq (S.1 19).toNat bb (F, A) t' F' A') (ht' : 0 ≤ t' ∧ t' ≤ 4) : k - 1 < k ∧ i_exp S (k - 1) t' F' A' := by
  obtain ⟨h1, h2, h3, h4, h5, h6, h7⟩ := h
  obtain ⟨r1, r2, r3, r4, r5, r6⟩ := hr
  have h8 := h7 hbad ht
  have r5' : F 11 ≤ F' 11 := r5
  have l1 := h2.1
  have l2 := r2.1
  refine ⟨by split at h8 <;> omega, h1.tr r1, r2, r3, h4.tr r4 (fun _ => hbad), by omega, ht', fun g1 g2 => ?_⟩
  have r6' : F 11 < F' 11 ∨ t' = 4 ∨ (bb ∧ t' = 2) := r6 g1
  rcases r6' with g | g | ⟨g, g3⟩
  · split at h8 <;> split <;> omega
  · omega
  · have := hb g
    rw [if_pos this] at h8
    rw [if_neg (by omega)]
    omega
theorem tv_x {q : Nat} {t : Int} {F : Nat → Int} {A : Nat → Nat → Int} (h : tv q t F A) (hb : F 16 = 0) : (t = 0 → gn q (F 19).toNat (F 25).toNat 0 A ∧ nosq (F 25).toNat A) ∧ (t = 1 → gn q (F 19).toNat (F 25).toNat 0 A ∧ sq (F 25).toNat A) ∧ (t = 2 → gn q (F 19).toNat (F 25).toNat 1 A ∧ nosq (F 25).toNat A) ∧ (t = 3 → gn q (F 19).toNat (F 25).toNat 1 A ∧ sq (F 25).toNat A) ∧ (t = 4 → gn q (F 19).toNat (F 25).toNat 1 A ∧ nobr (F 25).toNat A) := by
  rcases h hb with ⟨e, g⟩ | ⟨e, g⟩ | ⟨e, g⟩ | ⟨e, g⟩ | ⟨e, g⟩ <;> subst e
  · exact ⟨fun _ => g, fun e => absurd e (by decide), fun e => absurd e (by decide), fun e => absurd e (by decide), fun e => absurd e (by decide)⟩
  · exact ⟨fun e => absurd e (by decide), fun _ => g, fun e => absurd e (by decide), fun e => absurd e (by decide), fun e => absurd e (by decide)⟩
  · exact ⟨fun e => absurd e (by decide), fun e => absurd e (by decide), fun _ => g, fun e => absurd e (by decide), fun e => absurd e (by decide)⟩
  · exact ⟨fun e => absurd e (by decide), fun e => absurd e (by decide), fun e => absurd e (by decide), fun _ => g, fun e => absurd e (by decide)⟩
  · exact ⟨fun e => absurd e (by decide), fun e => absurd e (by decide), fun e => absurd e (by decide), fun e => absurd e (by decide), fun _ => g⟩
theorem exp_end {S : hs_S} {k : Nat} {t : Int} {F : Nat → Int} {A A' : Nat → Nat → Int} {P' N' : Nat} (h : i_exp S k t F A) (he : ¬ F 16 = 0 ∨ t = 4) (hk : k_set 1 (F 25).toNat (F 19).toNat P' N' A A') (ht : P' = 0 ∨ gp_b (A 10 (P' - 1)) < 1) (h19 : 0 ≤ S.1 19) : rx S (fset F P' N') A' := by
  obtain ⟨h1, h2, h3, h4, h5, h6, h7⟩ := h
  have h2' := h2
  obtain ⟨g1, g2, g3, g4, g5, g6, g7, g8⟩ := h2
  have p' := g8.set hk
  have n1 : (N' : Int) ≤ F 11 := by
    have q5 := p'.2.2.2.1
    exact Int.le_trans (Int.le_add_of_nonneg_right (Int.natCast_nonneg _)) q5
  refine ⟨hs_fr.up rfl (hs_fr.up rfl h1), ⟨g1, g2, g3, g4, g5, g7, (by show 0 ≤ (N' : Int); omega), n1⟩, h5, fun k a b c d => by rw [hk.2.2.2.1 k a b]; exact h4.1 k a b c d, fun hb => ?_⟩
  have hb' : F 16 = 0 := hb
  have et : t = 4 := by rcases he with he | he; exact absurd hb' he; exact he
  obtain ⟨q1, q2⟩ := (tv_x h3 hb').2.2.2.2 et
  have hP : P' = 0 := by
    rcases ht with ht | ht
    · exact ht
    · by_cases e0 : P' = 0
      · exact e0
      · exfalso
        have q3 := q2 (P' - 1) (by have := hk.1; omega)
        unfold gp_b at ht
        split at ht
        · omega
        · split at ht
          · omega
          · split at ht
            · omega
            · split at ht
              · omega
              · split at ht
                · omega
                · split at ht <;> omega
  subst hP
  obtain ⟨w1, w2⟩ := hk.2.2.2.2.2.1 _ q1
  have w3 := w1.1
  have w4 := gn_seg w1 (by omega)
  rw [show (((S.1 19).toNat : Nat) : Int) = S.1 19 by omega] at w4
  refine ⟨(by show S.1 19 ≤ (N' : Int); omega), fun j hj => ⟨?_, ?_⟩, w4⟩
  · have := q1.1
    rw [hk.2.2.2.2.1 j (by omega)]
    exact (h4.2 hb' j hj).1
  · rw [w2 j hj]
    exact (h4.2 hb' j hj).2
theorem c_readExpression : hs_C hs_sh 124 t_readExpression := by
  refine hs_met (nL := 3) (n0 := 60) (n := 80) [] [20] e_10 (by decide +kernel) rfl rfl ?_
  intro as S post h
  unfold t_readExpression at h
  split at h
  · rename_i z test
    obtain ⟨rfl, hbad, ⟨-, hpe⟩, hp⟩ := h
    obtain ⟨e1, e2, e3, e4, e5, e6, e7, e8⟩ := hpe
    refine ⟨Nat.le_of_ble_eq_true rfl, fun hh k g st S' => st = [] ∧ ∃ t F A, S' = (F, A) ∧ g = [(0, (4, 0)), (1, (0, test)), (2, (0, t))] ∧ i_exp S k t F A, ?_, ?_⟩
    · have I0 : ∀ t, (t = 0 ∨ t = 1) → i_exp S 100000 t (hs_up (hs_up S.1 25 0) 26 0) S.2 := fun t ht => ⟨hs_fr.up rfl (hs_fr.up rfl hs_fr.rf), ⟨e1, e2, e3, e4, e5, (by show -(S.1 11) ≤ 0 ∧ (0 : Int) ≤ 8; omega), e6, ⟨Int.le_refl _, e1.2.1, e7, (by show S.1 19 + ((0 : Nat) : Int) ≤ S.1 11; omega), fun i hi => absurd hi (by show ¬ i < 0; omega)⟩⟩, fun _ => (by
        rcases ht with ht | ht
        · exact Or.inl ⟨ht, gn_start, fun i hi => absurd hi (by show ¬ i < 0; omega)⟩
        · exact Or.inr (Or.inl ⟨ht, gn_start, fun i j hi hj => absurd hj (by show ¬ j < 0; omega)⟩)), kp.rf, Int.le_refl _, by omega, fun _ _ => by show 1 + 2 * (400 - S.1 11) + _ ≤ _; split <;> omega⟩
      refine And.intro (fun _ => ?_) (fun _ => ?_)
      · exact Exists.intro 100000 (Exists.intro [(0, (4, 0)), (1, (0, test)), (2, (0, 1))] (And.intro (And.intro rfl (And.intro rfl (And.intro rfl trivial))) (And.intro rfl (Exists.intro 1 (Exists.intro _ (Exists.intro _ (And.intro rfl (And.intro rfl (I0 1 (Or.inr rfl))))))))))
      · exact Exists.intro 100000 (Exists.intro [(0, (4, 0)), (1, (0, test)), (2, (0, 0))] (And.intro (And.intro rfl (And.intro rfl (And.intro rfl trivial))) (And.intro rfl (Exists.intro 0 (Exists.intro _ (Exists.intro _ (And.intro rfl (And.intro rfl (I0 0 (Or.inl rfl))))))))))
    · intro hh hm
      simp only [List.mem_cons, List.not_mem_nil, or_false] at hm
      subst hm
      intro k g st S' hI
      obtain ⟨rfl, t, F, A, rfl, rfl, hi⟩ := hI
      have hi0 := hi
      obtain ⟨i1, i2, i3, i4, i5, i6, i7⟩ := hi
      have i20 := i2
      obtain ⟨g1, g2, g3, g4, g5, g6, g7, g8⟩ := i2
      have hso : hs_o (ps F A) := hs_o.of i20
      have hset : (0 ≤ F 25 ∧ F 25 ≤ 400) ∧ 0 ≤ F 19 ∧ F 19 + gp_c 27 (A 10) (F 25).toNat ≤ 400 ∧ hs_o (gp_ok (F 25).toNat A) := by
        obtain ⟨p1, p2, p3, p4, p5⟩ := g8
        exact ⟨by omega, p3, by omega, hs_o.of p5⟩
      have KE : (¬ F 16 = 0 ∨ t = 4) → ∀ P' N' A', k_set 1 (F 25).toNat (F 19).toNat P' N' A A' → (P' = 0 ∨ gp_b (A 10 (P' - 1)) < 1) → post [] (fset F P' N', A') := fun he P' N' A' hk ht => hp _ _ (exp_end hi0 he hk ht e7)
      have KN : ∀ (bb : Prop) t' F' A', F 16 = 0 → ¬ t = 4 → (bb → t = 3) → (0 ≤ t' ∧ t' ≤ 4) → rq (S.1 19).toNat bb (F, A) t' F' A' → ∃ k', k' < k ∧ hs_J (fun g st S' => st = [] ∧ ∃ t F A, S' = (F, A) ∧ g = [(0, (4, 0)), (1, (0, test)), (2, (0, t))] ∧ i_exp S k' t F A) [(2, (0, t')), (0, (4, 0)), (1, (0, test))] [] (F', A') := fun bb t' F' A' hb ht hbb ht' hr => by
        obtain ⟨q1, q2⟩ := i_exp_step hi0 hb ht hbb hr ht'
        exact ⟨k - 1, q1, [(0, (4, 0)), (1, (0, test)), (2, (0, t'))], ⟨rfl, rfl, rfl, trivial⟩, rfl, t', F', A', rfl, rfl, q2⟩
      refine And.intro (fun n1 => ?_) (fun n1 => ?_)
      · have n2 : ¬ F 16 = 0 := n1
        exact And.intro rfl (And.intro hset.1 (And.intro hset.2.1 (And.intro hset.2.2.1 (And.intro hset.2.2.2 (And.intro (Int.le_refl _) (fun P' N' A' hk ht => KE (Or.inl n2) P' N' A' hk ht))))))
      have n2 : F 16 = 0 := n1
      obtain ⟨t0, t1, t2, t3, t4⟩ := tv_x i3 n2
      refine And.intro (fun m1 => ?_) (fun m1 => ?_)
      · have m2 : t = 4 := m1
        exact And.intro rfl (And.intro hset.1 (And.intro hset.2.1 (And.intro hset.2.2.1 (And.intro hset.2.2.2 (And.intro (Int.le_refl _) (fun P' N' A' hk ht => KE (Or.inr m2) P' N' A' hk ht))))))
      have m2 : ¬ t = 4 := m1
      refine And.intro (fun m3 => ?_) (fun m3 => ?_)
      · -- not plain
        have m4 : ¬ t = 0 := m3
        refine And.intro (fun m5 => ?_) (fun m5 => ?_)
        · have m6 : ¬ t = 1 := m5
          refine And.intro (fun m7 => ?_) (fun m7 => ?_)
          · have m8 : ¬ t = 3 := m7
            obtain ⟨q1, q2⟩ := t2 (by omega)
            exact And.intro rfl (And.intro n2 (And.intro hso (Exists.intro _ (And.intro q1 (And.intro q2 (fun t' F' A' ht' hr => KN False t' F' A' n2 m2 (fun h => h.elim) ht' hr))))))
          · have m8 : t = 3 := m7
            obtain ⟨q1, q2⟩ := t3 m8
            exact And.intro rfl (And.intro n2 (And.intro hso (Exists.intro _ (And.intro q1 (And.intro q2 (fun t' F' A' ht' hr => KN True t' F' A' n2 m2 (fun _ => m8) (by omega) hr))))))
        · have m6 : t = 1 := m5
          obtain ⟨q1, q2⟩ := t1 m6
          exact And.intro rfl (And.intro n2 (And.intro hso (Exists.intro _ (And.intro q1 (And.intro q2 (fun t' F' A' ht' hr => KN False t' F' A' n2 m2 (fun h => h.elim) (by omega) hr))))))
      · have m4 : t = 0 := m3
        obtain ⟨q1, q2⟩ := t0 m4
        exact And.intro rfl (And.intro n2 (And.intro hso (Exists.intro _ (And.intro q1 (And.intro q2 (fun t' F' A' ht' hr => KN False t' F' A' n2 m2 (fun h => h.elim) (by omega) hr))))))
  · cases h
def E_11 : hs_E := hs_ad E_10 124 t_readExpression
theorem e_11 : ∀ K, hs_C hs_sh K (E_11 K) := hs_ad_ok e_10 c_readExpression

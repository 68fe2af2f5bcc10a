/-! ===== the reference's parser: behind a sum, behind a test ===== -/
def E_9 : hs_E := hs_ad E_8 126 t_readPlain
theorem e_9 : ∀ K, hs_C hs_sh K (E_9 K) := hs_ad_ok e_8 c_readPlain
def t_behindTest : hs_T := fun as S post => match as with
  | [(4, z)] => z = 0 ∧ S.1 16 = 0 ∧ hs_o (ps S.1 S.2) ∧ ∃ q, gn q (S.1 19).toNat (S.1 25).toNat 1 S.2 ∧ nosq (S.1 25).toNat S.2 ∧ ∀ t F A, (0 ≤ t ∧ t ≤ 4) → rq q False S t F A → post [(0, t)] (F, A)
  | _ => False
theorem c_behindTest : hs_C hs_sh 37 t_behindTest := by
  refine hs_met0 (nL := 2) (n0 := 80) [] e_9 (by decide +kernel) rfl rfl ?_
  intro as S post h
  unfold t_behindTest at h
  split at h
  · obtain ⟨rfl, hbad, ⟨-, hps⟩, q, hg, hsq, hp⟩ := h
    refine ⟨Nat.le_of_ble_eq_true rfl, ?_⟩
    have hps0 := hps
    obtain ⟨h1, h2, h3, h4, h5, h6, h7, h8, h9, h10, h11, h13⟩ := hps
    have h12 : (0 : Int) ≤ (gp_c 27 (S.2 10) (S.1 25).toNat : Int) := Int.natCast_nonneg _
    have hpa : pa (S.1 25) (S.1 19) (S.1 11) (S.1 11) S.2 := ⟨h8, h9, h10, h11, h13⟩
    have KS : ∀ {l : Int} {P' N' : Nat} {A' : Nat → Nat → Int}, k_set l (S.1 25).toNat (S.1 19).toNat P' N' S.2 A' → (P' : Int) ≤ S.1 25 ∧ (N' : Int) ≤ S.1 11 := fun hk => by
      have q := hpa.set hk
      have q2 := hk.1
      have q3 := q.2.2.2.1
      exact ⟨by omega, by
        have q5 := q.2.2.2.1
        refine Int.le_trans ?_ q5
        exact Int.le_add_of_nonneg_right (Int.natCast_nonneg _)⟩
    have K6 : ∀ r, k_inn (S.2 10) (S.1 25).toNat r → r = -1 → post [(0, 4)] S := fun r hk hr => hp 4 S.1 S.2 (by omega) (rq_stay hps0 hg (Or.inl ⟨rfl, by
      rcases hk with ⟨-, q⟩ | ⟨m, -, q2, q3, -⟩
      · exact q
      · omega⟩))
    have K1 : ∀ t w, (0 ≤ t ∧ t ≤ 4) → post [(0, t)] (hs_up (hs_up S.1 16 1) 15 w, S.2) := fun t w ht => hp t _ _ ht (rq_bad hps0)
    have K5 : ∀ op l P' N' A', gp_ao op → ¬ S.1 13 = 0 → k_set l (S.1 25).toNat (S.1 19).toNat P' N' S.2 A' → ∀ a b c d, S.1 12 ≤ a → a ≤ b → b ≤ S.1 10 → 0 ≤ c → c ≤ 3 → (c = 0 → a = S.1 10) → (¬ c = 0 → a < b) →  post [(0, 0)] (hs_up (hs_up (hs_up (hs_up (hs_up (hs_up (fset S.1 P' N') 25 (P' + 1)) 19 (N' + 1)) 11 a) 12 b) 13 c) 14 d, hs_emt (hs_psh A' P' op N') N' op 0) := by
      intro op l P' N' A' hao h13' hk a b c d n1 n2 n3 n4 n5 n6 n7
      obtain ⟨s1, s2, s3, s4, s5, s6⟩ := set_ok (F0 := S.1) (F := S.1) hs_fr.rf kp.rf hps0 hg hk
      exact hp 0 _ _ (by omega) (rq_ao (F := fset S.1 P' N') s1 s2 (Int.le_refl _) s3 hbad h13' hao s4 (nosq_e hsq s5 s6) n1 n2 n3 n4 n5 n6 n7)
    have KC : ∀ r, k_inn (S.2 10) (S.1 25).toNat r → ¬ r = -1 → S.1 13 = 3 → ∀ a b c d, S.1 12 ≤ a → a ≤ b → b ≤ S.1 10 → 0 ≤ c → c ≤ 3 → (c = 0 → a = S.1 10) → (¬ c = 0 → a < b) →  ∀ P' N' A', k_set 1 (S.1 25).toNat (S.1 19).toNat P' N' S.2 A' → (P' = 0 ∨ gp_b (S.2 10 (P' - 1)) < 1) → post [(0, 2)] (hs_up (hs_up (fset (hs_up (hs_up (hs_up (hs_up S.1 11 a) 12 b) 13 c) 14 d) P' N') 25 ((P' : Int) - 1)) 26 (S.1 26 - 1), A') := by
      intro r hki hr h13' a b c d n1 n2 n3 n4 n5 n6 n7 P' N' A' hk ht
      obtain ⟨g1, g2⟩ := hps0.nx (d := d) (by omega) n1 n2 n3 n4 n5 n6 n7
      obtain ⟨s1, s2, s3, s4, s5, s6⟩ := set_ok (F0 := S.1) (F := hs_up (hs_up (hs_up (hs_up S.1 11 a) 12 b) 13 c) 14 d) (hs_fr.up rfl (hs_fr.up rfl (hs_fr.up rfl (hs_fr.up rfl hs_fr.rf)))) kp.rf g1 hg hk
      have hb := br_top h13 hki hr hk ht
      exact hp 2 _ _ (by omega) (rq_close (F := hs_up (hs_up (hs_up (hs_up S.1 11 a) 12 b) 13 c) 14 d) (A := S.2) s1 s2 (by show S.1 11 < a; omega) (by show -a < S.1 26; omega) s3 hbad s4 hb.1 (by rw [s6]; exact hb.2) (Or.inl ⟨rfl, nosq_e hsq s5 s6⟩))
    have hso : hs_o (ps S.1 S.2) := hs_o.of hps0
    have hso2 : hs_o (gp_ok (S.1 25).toNat S.2) := hs_o.of h13
    clear hp hps0 hg hsq h13 hpa
    repeat' (first | (refine And.intro ?_ ?_) | (intro _))
    all_goals (first | omega | (dsimp only at *; omega) | exact hso2 | (refine K1 _ _ ?_; omega) | (refine K6 _ (by assumption) ?_; first | assumption | omega) | (refine K5 _ _ _ _ _ (Or.inl rfl) ?_ (by assumption) _ _ _ _ ?_ ?_ ?_ ?_ ?_ ?_ ?_ <;> first | omega | ((try dsimp only at *) <;> (try simp only [hs_up_r, Nat.reduceBEq, cond_true, cond_false, Int.reduceToNat, not_true_eq_false, not_false_eq_true, true_and, and_true] at *) <;> omega)) | (refine K5 _ _ _ _ _ (Or.inr rfl) ?_ (by assumption) _ _ _ _ ?_ ?_ ?_ ?_ ?_ ?_ ?_ <;> first | omega | ((try dsimp only at *) <;> (try simp only [hs_up_r, Nat.reduceBEq, cond_true, cond_false, Int.reduceToNat, not_true_eq_false, not_false_eq_true, true_and, and_true] at *) <;> omega)) | (refine KC _ (by assumption) ?_ ?_ _ _ _ _ ?_ ?_ ?_ ?_ ?_ ?_ ?_ _ _ _ (by assumption) (by assumption) <;> first | omega | (dsimp only at *; omega)) | (have kx := KS ‹k_set _ _ _ _ _ _ _›; first | omega | (dsimp only at *; omega) | ((try dsimp only at *) <;> (try simp only [hs_up_r, Nat.reduceBEq, cond_true, cond_false, Int.reduceToNat, not_true_eq_false, not_false_eq_true, true_and, and_true] at *) <;> omega)) | ((try dsimp only at *) <;> (try simp only [hs_up_r, Nat.reduceBEq, cond_true, cond_false, Int.reduceToNat, not_true_eq_false, not_false_eq_true, true_and, and_true] at *) <;> omega))
  · cases h
def t_behindSum : hs_T := fun as S post => match as with
  | [(4, z), (0, test)] => z = 0 ∧ S.1 16 = 0 ∧ hs_o (ps S.1 S.2) ∧ ∃ q, gn q (S.1 19).toNat (S.1 25).toNat 1 S.2 ∧ sq (S.1 25).toNat S.2 ∧ ∀ t F A, (1 ≤ t ∧ t ≤ 4) → rq q True S t F A → post [(0, t)] (F, A)
  | _ => False
theorem c_behindSum : hs_C hs_sh 36 t_behindSum := by
  refine hs_met0 (nL := 4) (n0 := 130) [] e_9 (by decide +kernel) rfl rfl ?_
  intro as S post h
  unfold t_behindSum at h
  split at h
  · obtain ⟨rfl, hbad, ⟨-, hps⟩, q, hg, hsq, hp⟩ := h
    refine ⟨Nat.le_of_ble_eq_true rfl, ?_⟩
    have hps0 := hps
    obtain ⟨h1, h2, h3, h4, h5, h6, h7, h8, h9, h10, h11, h13⟩ := hps
    have h12 : (0 : Int) ≤ (gp_c 27 (S.2 10) (S.1 25).toNat : Int) := Int.natCast_nonneg _
    have hpa : pa (S.1 25) (S.1 19) (S.1 11) (S.1 11) S.2 := ⟨h8, h9, h10, h11, h13⟩
    have KS : ∀ {l : Int} {P' N' : Nat} {A' : Nat → Nat → Int}, k_set l (S.1 25).toNat (S.1 19).toNat P' N' S.2 A' → (P' : Int) ≤ S.1 25 ∧ (N' : Int) ≤ S.1 11 := fun hk => by
      have q := hpa.set hk
      have q2 := hk.1
      have q3 := q.2.2.2.1
      exact ⟨by omega, by
        have q5 := q.2.2.2.1
        refine Int.le_trans ?_ q5
        exact Int.le_add_of_nonneg_right (Int.natCast_nonneg _)⟩
    have K6 : ∀ r, k_inn (S.2 10) (S.1 25).toNat r → r = -1 → post [(0, 4)] S := fun r hk hr => hp 4 S.1 S.2 (by omega) (rq_stay hps0 hg (Or.inl ⟨rfl, by
      rcases hk with ⟨-, q⟩ | ⟨m, -, q2, q3, -⟩
      · exact q
      · omega⟩))
    have K1 : ∀ t w, (1 ≤ t ∧ t ≤ 4) → post [(0, t)] (hs_up (hs_up S.1 16 1) 15 w, S.2) := fun t w ht => hp t _ _ ht (rq_bad hps0)
    have K8 : ∀ op l P' N' A', (20 ≤ op ∧ op ≤ 23) → ¬ S.1 13 = 0 → k_set l (S.1 25).toNat (S.1 19).toNat P' N' S.2 A' → ∀ a b c d, S.1 12 ≤ a → a ≤ b → b ≤ S.1 10 → 0 ≤ c → c ≤ 3 → (c = 0 → a = S.1 10) → (¬ c = 0 → a < b) →  post [(0, 1)] (hs_up (hs_up (hs_up (hs_up (hs_up (fset S.1 P' N') 25 (P' + 1)) 11 a) 12 b) 13 c) 14 d, hs_psh A' P' op 0) := by
      intro op l P' N' A' hao h13' hk a b c d n1 n2 n3 n4 n5 n6 n7
      obtain ⟨s1, s2, s3, s4, s5, s6⟩ := set_ok (F0 := S.1) (F := S.1) hs_fr.rf kp.rf hps0 hg hk
      exact hp 1 _ _ (by omega) (rq_op (F := fset S.1 P' N') s1 s2 (Int.le_refl _) s3 hbad h13' (by omega) s4 (by rw [if_pos (by omega)]; rfl) (Or.inl ⟨rfl, rfl, sq_e hsq s5 s6, Or.inl hao.2⟩) n1 n2 n3 n4 n5 n6 n7)
    have K10 : ∀ r, k_inn (S.2 10) (S.1 25).toNat r → ¬ r = 31 → post [(0, 2)] S := fun r hk hr => hp 2 S.1 S.2 (by omega) (rq_stay hps0 hg (Or.inr ⟨trivial, rfl, sq_nosq hsq hk hr⟩))
    have K11 : ∀ r op, k_inn (S.2 10) (S.1 25).toNat r → ¬ r = 31 → (24 ≤ op ∧ op ≤ 26) → ¬ S.1 13 = 0 → ∀ a b c d, S.1 12 ≤ a → a ≤ b → b ≤ S.1 10 → 0 ≤ c → c ≤ 3 → (c = 0 → a = S.1 10) → (¬ c = 0 → a < b) →  ∀ P' N' A', k_set 5 (S.1 25).toNat (S.1 19).toNat P' N' S.2 A' → post [(0, 1)] (hs_up (fset (hs_up (hs_up (hs_up (hs_up S.1 11 a) 12 b) 13 c) 14 d) P' N') 25 ((P' : Int) + 1), hs_psh A' P' op 0) := by
      intro r op hki hr hop h13' a b c d n1 n2 n3 n4 n5 n6 n7 P' N' A' hk
      obtain ⟨g1, g2⟩ := hps0.nx (d := d) (by omega) n1 n2 n3 n4 n5 n6 n7
      obtain ⟨s1, s2, s3, s4, s5, s6⟩ := set_ok (F0 := S.1) (F := hs_up (hs_up (hs_up (hs_up S.1 11 a) 12 b) 13 c) 14 d) (hs_fr.up rfl (hs_fr.up rfl (hs_fr.up rfl (hs_fr.up rfl hs_fr.rf)))) kp.rf g1 hg hk
      exact hp 1 _ _ (by omega) (rq_cmp (F := hs_up (hs_up (hs_up (hs_up S.1 11 a) 12 b) 13 c) 14 d) s1 s2 (by show S.1 11 < a; omega) s3 ((hpa.set hk).le (by show _ ≤ a - 1; omega) (by show _ ≤ a - 1; omega)) hbad s4 hop (nosq_e (sq_nosq hsq hki hr) s5 s6))
    have KC : ∀ r, k_inn (S.2 10) (S.1 25).toNat r → r = 31 → S.1 13 = 3 → ∀ a b c d, S.1 12 ≤ a → a ≤ b → b ≤ S.1 10 → 0 ≤ c → c ≤ 3 → (c = 0 → a = S.1 10) → (¬ c = 0 → a < b) →  ∀ P' N' A', k_set 5 (S.1 25).toNat (S.1 19).toNat P' N' S.2 A' → (P' = 0 ∨ gp_b (S.2 10 (P' - 1)) < 5) → post [(0, 3)] (hs_up (hs_up (fset (hs_up (hs_up (hs_up (hs_up S.1 11 a) 12 b) 13 c) 14 d) P' N') 25 ((P' : Int) - 1)) 26 (S.1 26 - 1), A') := by
      intro r hki hr h13' a b c d n1 n2 n3 n4 n5 n6 n7 P' N' A' hk ht
      obtain ⟨g1, g2⟩ := hps0.nx (d := d) (by omega) n1 n2 n3 n4 n5 n6 n7
      obtain ⟨s1, s2, s3, s4, s5, s6⟩ := set_ok (F0 := S.1) (F := hs_up (hs_up (hs_up (hs_up S.1 11 a) 12 b) 13 c) 14 d) (hs_fr.up rfl (hs_fr.up rfl (hs_fr.up rfl (hs_fr.up rfl hs_fr.rf)))) kp.rf g1 hg hk
      have hb := sq_top hsq hki hr hk ht
      exact hp 3 _ _ (by omega) (rq_close (F := hs_up (hs_up (hs_up (hs_up S.1 11 a) 12 b) 13 c) 14 d) (A := S.2) s1 s2 (by show S.1 11 < a; omega) (by show -a < S.1 26; omega) s3 hbad s4 hb.1 (by rw [s6]; have := hb.2; omega) (Or.inr ⟨rfl, sq_e hsq s5 s6⟩))
    have hso : hs_o (ps S.1 S.2) := hs_o.of hps0
    have hso2 : hs_o (gp_ok (S.1 25).toNat S.2) := hs_o.of h13
    clear hp hps0 hg hsq h13 hpa
    repeat' (first | (refine And.intro ?_ ?_) | (intro _))
    all_goals (first | omega | (dsimp only at *; omega) | exact hso2 | (refine K1 _ _ ?_; omega) | (refine K6 _ (by assumption) ?_; first | assumption | omega) | (refine K10 _ (by assumption) ?_; first | assumption | omega) | (refine K8 _ _ _ _ _ ?_ ?_ (by assumption) _ _ _ _ ?_ ?_ ?_ ?_ ?_ ?_ ?_ <;> first | omega | (dsimp only at *; omega) | ((try dsimp only at *) <;> (try simp only [hs_up_r, Nat.reduceBEq, cond_true, cond_false, Int.reduceToNat, not_true_eq_false, not_false_eq_true, true_and, and_true] at *) <;> omega)) | (refine KC _ (by assumption) ?_ ?_ _ _ _ _ ?_ ?_ ?_ ?_ ?_ ?_ ?_ _ _ _ (by assumption) (by assumption) <;> first | omega | (dsimp only at *; omega)) | (refine K11 _ _ (by assumption) ?_ ?_ ?_ _ _ _ _ ?_ ?_ ?_ ?_ ?_ ?_ ?_ _ _ _ (by assumption) <;> first | omega | (dsimp only at *; omega) | ((try dsimp only at *) <;> (try simp only [hs_up_r, Nat.reduceBEq, cond_true, cond_false, Int.reduceToNat, not_true_eq_false, not_false_eq_true, true_and, and_true] at *) <;> omega)) | (have kx := KS ‹k_set _ _ _ _ _ _ _›; first | omega | (dsimp only at *; omega) | ((try dsimp only at *) <;> (try simp only [hs_up_r, Nat.reduceBEq, cond_true, cond_false, Int.reduceToNat, not_true_eq_false, not_false_eq_true, true_and, and_true] at *) <;> omega)) | ((try dsimp only at *) <;> (try simp only [hs_up_r, Nat.reduceBEq, cond_true, cond_false, Int.reduceToNat, not_true_eq_false, not_false_eq_true, true_and, and_true] at *) <;> omega))
  · cases h

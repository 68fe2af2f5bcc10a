/-! ===== the reference's parser: more of its turns ===== -/
def E_8 : hs_E := hs_ad E_7 125 t_readPart
theorem e_8 : ∀ K, hs_C hs_sh K (E_8 K) := hs_ad_ok e_7 c_readPart
theorem kp.any {q : Nat} {f : Int} {A B : Nat → Nat → Int} (h : kp q 0 A B) : kp q f A B := ⟨h.1, fun _ => h.2 rfl⟩
/-- settled -/
def fset (f : Nat → Int) (P N : Nat) : Nat → Int := hs_up (hs_up f 25 P) 19 N
theorem set_ok {q : Nat} {l : Int} {P' N' : Nat} {F0 F : Nat → Int} {A0 A A' : Nat → Nat → Int} (hF : hs_fr hs_PF F0 F) (hk : kp q 0 A0 A) (hps : ps F A) (hg : gn q (F 19).toNat (F 25).toNat 1 A) (h : k_set l (F 25).toNat (F 19).toNat P' N' A A') : hs_fr hs_PF F0 (fset F P' N') ∧ kp q 0 A0 A' ∧ ps (fset F P' N') A' ∧ gn q N' P' 1 A' ∧ P' ≤ (F 25).toNat ∧ A' 10 = A 10 := by
  obtain ⟨h1, h2, h3, h4, h5, h6, h7, h8⟩ := hps
  have h9 := h
  obtain ⟨k1, k2, k3, k4, k5, k6, k7⟩ := h
  exact ⟨hs_fr.up rfl (hs_fr.up rfl hF), hk.tr (kp.set (f := 0) h9 hg) (fun h => h), ⟨h1, h2, h3, h4, h5, h6, h7, h8.set h9⟩, (k6 q hg).1, k1, k4 10 (by decide) (by decide)⟩
theorem ps.nx {F : Nat → Int} {A : Nat → Nat → Int} {a b c d : Int} (h : ps F A) (h13 : ¬ F 13 = 0) (n1 : F 12 ≤ a) (n2 : a ≤ b) (n3 : b ≤ F 10) (n4 : 0 ≤ c) (n5 : c ≤ 3) (n6 : c = 0 → a = F 10) (n7 : ¬ c = 0 → a < b) : ps (hs_up (hs_up (hs_up (hs_up F 11 a) 12 b) 13 c) 14 d) A ∧ F 11 < a := by
  obtain ⟨h1, h2, h3, h4, h5, h6, h7, h8⟩ := h
  have := h4 h13
  exact ⟨⟨⟨h1.1, (by show 0 ≤ a; omega), n2, n3⟩, ⟨n4, n5⟩, n6, n7, h5, (by show -a ≤ F 26 ∧ F 26 ≤ 8; omega), h7, h8.le (by show _ ≤ a; omega) (by show _ ≤ a; omega)⟩, by omega⟩
theorem rq_ao {q : Nat} {bb : Prop} {S : hs_S} {op a b c d : Int} {F : Nat → Int} {A : Nat → Nat → Int} (hF : hs_fr hs_PF S.1 F) (hk : kp q 0 S.2 A) (h11 : S.1 11 ≤ F 11) (h : ps F A) (hbad : F 16 = 0) (hso : ¬ F 13 = 0) (hop : gp_ao op) (hg : gn q (F 19).toNat (F 25).toNat 1 A) (ht : nosq (F 25).toNat A) (n1 : F 12 ≤ a) (n2 : a ≤ b) (n3 : b ≤ F 10) (n4 : 0 ≤ c) (n5 : c ≤ 3) (n6 : c = 0 → a = F 10) (n7 : ¬ c = 0 → a < b) : rq q bb S 0 (hs_up (hs_up (hs_up (hs_up (hs_up (hs_up F 25 (F 25 + 1)) 19 (F 19 + 1)) 11 a) 12 b) 13 c) 14 d) (hs_emt (hs_psh A (F 25) op (F 19)) (F 19) op 0) := by
  obtain ⟨h1, h2, h3, h4, h5, h6, h7, h8⟩ := h
  have hlt := h4 hso
  have hop' : 28 ≤ op ∧ op ≤ 29 := by unfold gp_ao at hop; omega
  have h0 : (0 : Int) ≤ (gp_c 27 (A 10) (F 25).toNat : Int) := Int.natCast_nonneg _
  have hn := h8.2.2.1
  have hp := h8.1
  have h9 := h8.2.2.2.1
  have h8' := ((h8.push (op := op) (t := F 19) (by omega) (by omega)).emit (op := op) (t := 0)).le (d1 := a) (d2 := a) (by omega) (by rw [if_neg (by omega)]; omega)
  have hql := hg.1
  refine ⟨hs_fr.up rfl (hs_fr.up rfl (hs_fr.up rfl (hs_fr.up rfl (hs_fr.up rfl (hs_fr.up rfl hF))))), ⟨⟨h1.1, (by show 0 ≤ a; omega), n2, n3⟩, ⟨n4, n5⟩, n6, n7, Or.inl hbad, (by show -a ≤ F 26 ∧ F 26 ≤ 8; omega), h7, h8'⟩, fun _ => Or.inl ⟨rfl, gn_ao hg hn hp hop, nosq_e (nosq_psh hp ht (by omega)) (Nat.le_refl _) (emt_ne (by decide) (by decide))⟩, (hk.tr ((kp.psh (f := 0)).tr (kp.emt (f := 0) hql) (fun h => h)) (fun _ => rfl)).any, (by show S.1 11 ≤ a; omega), fun _ => Or.inl (by show S.1 11 < a; omega)⟩
/-- a bracket is closed -/
theorem rq_close {q : Nat} {bb : Prop} {S : hs_S} {t : Int} {P : Nat} {N : Nat} {F : Nat → Int} {A A' : Nat → Nat → Int} (hF : hs_fr hs_PF S.1 (fset F P N)) (hk : kp q 0 S.2 A') (h11 : S.1 11 < F 11) (h26 : -(F 11) < F 26) (hps : ps (fset F P N) A') (hbad : F 16 = 0) (hg : gn q N P 1 A') (hP : 1 ≤ P) (hb : 30 ≤ A' 10 (P - 1)) (ht : (t = 2 ∧ nosq P A') ∨ (t = 3 ∧ sq P A')) : rq q bb S t (hs_up (hs_up (fset F P N) 25 ((P : Int) - 1)) 26 (F 26 - 1)) A' := by
  obtain ⟨h1, h2, h3, h4, h5, h6, h7, h8⟩ := hps
  have h6' : -(F 11) ≤ F 26 ∧ F 26 ≤ 8 := h6
  have h8' := h8.pop (show 1 ≤ (P : Int) by omega)
  have hg' : gn q (N : Int).toNat ((P : Int) - 1).toNat 1 A' := gn_pop (n := N) (p := P) hg (by omega) hb
  have e : ((P : Int) - 1).toNat ≤ P := by omega
  refine ⟨hs_fr.up rfl (hs_fr.up rfl hF), ⟨h1, h2, h3, h4, h5, (by show -(F 11) ≤ F 26 - 1 ∧ F 26 - 1 ≤ 8; omega), h7, h8'⟩, fun _ => ?_, ⟨hk.1, fun _ => hk.2 rfl⟩, (by show S.1 11 ≤ F 11; omega), fun _ => Or.inl h11⟩
  rcases ht with ⟨t1, t2⟩ | ⟨t1, t2⟩
  · exact Or.inr (Or.inr (Or.inl ⟨t1, hg', nosq_e t2 e rfl⟩))
  · exact Or.inr (Or.inr (Or.inr (Or.inl ⟨t1, hg', sq_e t2 e rfl⟩)))
/-- a comparison is put on the pile -/
theorem rq_cmp {q : Nat} {bb : Prop} {S : hs_S} {op : Int} {P : Nat} {N : Nat} {F : Nat → Int} {A' : Nat → Nat → Int} (hF : hs_fr hs_PF S.1 (fset F P N)) (hk : kp q 0 S.2 A') (h11 : S.1 11 < F 11) (hps : ps (fset F P N) A') (hpa : pa P N (F 11 - 1) (F 11 - 1) A') (hbad : F 16 = 0) (hg : gn q N P 1 A') (hop : 24 ≤ op ∧ op ≤ 26) (ht : nosq P A') : rq q bb S 1 (hs_up (fset F P N) 25 ((P : Int) + 1)) (hs_psh A' P op 0) := by
  obtain ⟨h1, h2, h3, h4, h5, h6, h7, h8⟩ := hps
  have h8' := (hpa.push (op := op) (t := 0) (by omega) (by omega)).le (d1 := F 11) (d2 := F 11) (by omega) (by rw [if_pos (by omega)]; omega)
  have hg' : gn q (N : Int).toNat ((P : Int) + 1).toNat 0 (hs_psh A' P op 0) := gn_psh (n := N) (p := P) hg (by omega) (by unfold gp_ao; omega) (by rw [if_pos (by omega)]; rfl)
  exact ⟨hs_fr.up rfl hF, ⟨h1, h2, h3, h4, h5, h6, h7, h8'⟩, fun _ => Or.inr (Or.inl ⟨rfl, hg', sq_psh (p := P) (by omega) ht.sq (Or.inr (Or.inr ht))⟩), (hk.tr (kp.psh (f := 0)) (fun _ => rfl)).any, (by show S.1 11 ≤ F 11; omega), fun _ => Or.inl h11⟩
theorem rq_stay {q : Nat} {bb : Prop} {S : hs_S} {t : Int} (hps : ps S.1 S.2) (hg : gn q (S.1 19).toNat (S.1 25).toNat 1 S.2) (ht : (t = 4 ∧ nobr (S.1 25).toNat S.2) ∨ (bb ∧ t = 2 ∧ nosq (S.1 25).toNat S.2)) : rq q bb S t S.1 S.2 := by
  refine ⟨hs_fr.rf, hps, fun _ => ?_, kp.rf, Int.le_refl _, fun _ => ?_⟩
  · rcases ht with ⟨t1, t2⟩ | ⟨-, t1, t2⟩
    · exact Or.inr (Or.inr (Or.inr (Or.inr ⟨t1, hg, t2⟩)))
    · exact Or.inr (Or.inr (Or.inl ⟨t1, hg, t2⟩))
  · rcases ht with ⟨t1, t2⟩ | ⟨t0, t1, t2⟩
    · exact Or.inr (Or.inl t1)
    · exact Or.inr (Or.inr ⟨t0, t1⟩)
def t_readPlain : hs_T := fun as S post => match as with
  | [(4, z)] => z = 0 ∧ S.1 16 = 0 ∧ hs_o (ps S.1 S.2) ∧ ∃ q, gn q (S.1 19).toNat (S.1 25).toNat 0 S.2 ∧ nosq (S.1 25).toNat S.2 ∧ ∀ t F A, (0 ≤ t ∧ t ≤ 3) → rq q False S t F A → post [(0, t)] (F, A)
  | _ => False
theorem c_readPlain : hs_C hs_sh 126 t_readPlain := by
  refine hs_met0 (nL := 2) (n0 := 60) [] e_8 (by decide +kernel) rfl rfl ?_
  intro as S post h
  unfold t_readPlain at h
  split at h
  · obtain ⟨rfl, hbad, ⟨-, hps⟩, q, hg, hsq, hp⟩ := h
    refine ⟨Nat.le_of_ble_eq_true rfl, ?_⟩
    have hps0 := hps
    obtain ⟨h1, h2, h3, h4, h5, h6, h7, h8, h9, h10, h11, -⟩ := hps
    have h12 : (0 : Int) ≤ (gp_c 27 (S.2 10) (S.1 25).toNat : Int) := Int.natCast_nonneg _
    have K1 : ∀ t w, (0 ≤ t ∧ t ≤ 3) → post [(0, t)] (hs_up (hs_up S.1 16 1) 15 w, S.2) := fun t w ht => hp t _ _ ht (rq_bad hps0)
    have K2 : S.1 13 = 3 → S.1 26 < 8 → ∀ a b c d, S.1 12 ≤ a → a ≤ b → b ≤ S.1 10 → 0 ≤ c → c ≤ 3 → (c = 0 → a = S.1 10) → (¬ c = 0 → a < b) →  post [(0, 0)] (hs_up (hs_up (hs_up (hs_up (hs_up (hs_up S.1 11 a) 12 b) 13 c) 14 d) 26 (S.1 26 + 1)) 25 (S.1 25 + 1), hs_psh S.2 (S.1 25) 30 0) := fun k1 k2 a b c d n1 n2 n3 n4 n5 n6 n7 => hp 0 _ _ (by omega) (rq_open hps0 hbad (by omega) k2 (Or.inl rfl) (Or.inr ⟨rfl, hg, hsq, rfl⟩) n1 n2 n3 n4 n5 n6 n7)
    have K3 : ∀ op ar, ¬ S.1 13 = 0 → 0 ≤ op → op ≤ 16 → S.1 22 < 50 → ∀ a b c d, S.1 12 ≤ a → a ≤ b → b ≤ S.1 10 → 0 ≤ c → c ≤ 3 → (c = 0 → a = S.1 10) → (¬ c = 0 → a < b) →  post [(0, 2)] (hs_up (hs_up (hs_up (hs_up (hs_up (hs_up S.1 11 a) 12 b) 13 c) 14 d) 19 (S.1 19 + 1)) 22 (S.1 22 + 1), hs_emt S.2 (S.1 19) op ar) := fun op ar k1 k2 k3 k4 a b c d n1 n2 n3 n4 n5 n6 n7 => hp 2 _ _ (by omega) (rq_leaf hps0 hbad k1 k4 ⟨k2, k3⟩ hg (Or.inr ⟨rfl, hsq⟩) n1 n2 n3 n4 n5 n6 n7)
    have K4 : ¬ S.1 13 = 0 → ∀ a b c d, S.1 12 ≤ a → a ≤ b → b ≤ S.1 10 → 0 ≤ c → c ≤ 3 → (c = 0 → a = S.1 10) → (¬ c = 0 → a < b) →  post [(0, 0)] (hs_up (hs_up (hs_up (hs_up (hs_up S.1 25 (S.1 25 + 1)) 11 a) 12 b) 13 c) 14 d, hs_psh S.2 (S.1 25) 27 0) := fun k1 a b c d n1 n2 n3 n4 n5 n6 n7 => hp 0 _ _ (by omega) (rq_op hs_fr.rf kp.rf (Int.le_refl _) hps0 hbad k1 (by omega) hg (by rw [if_neg (by omega)]; rfl) (Or.inr ⟨rfl, rfl, hsq⟩) n1 n2 n3 n4 n5 n6 n7)
    repeat' (first | (refine And.intro ?_ ?_) | (intro _))
    all_goals (first | omega | (dsimp only at *; omega) | exact hs_o.of hps0 | exact Exists.intro q (And.intro hg (And.intro hsq.sq (fun t F A ht hr => hp t F A (by omega) hr))) | (refine K1 _ _ ?_; omega) | (refine K2 ?_ ?_ _ _ _ _ ?_ ?_ ?_ ?_ ?_ ?_ ?_ <;> omega) | (refine K3 _ _ ?_ ?_ ?_ ?_ _ _ _ _ ?_ ?_ ?_ ?_ ?_ ?_ ?_ <;> first | omega | (dsimp only at *; omega)) | (refine K4 ?_ _ _ _ _ ?_ ?_ ?_ ?_ ?_ ?_ ?_ <;> first | omega | ((try dsimp only at *) <;> (try simp only [hs_up_r, Nat.reduceBEq, cond_true, cond_false, Int.reduceToNat, not_true_eq_false, not_false_eq_true, true_and, and_true] at *) <;> omega)) | ((try dsimp only at *) <;> (try simp only [hs_up_r, Nat.reduceBEq, cond_true, cond_false, Int.reduceToNat, not_true_eq_false, not_false_eq_true, true_and, and_true] at *) <;> omega))
  · cases h

/-! ===== the reference's parser: its turns ===== -/
abbrev hs_PF : List Nat := [11, 12, 13, 14, 15, 16, 19, 22, 25, 26]
/-- what a turn leaves behind -/
def rq (a : Nat) (b : Prop) (S : hs_S) (t : Int) (F : Nat → Int) (A : Nat → Nat → Int) : Prop := hs_fr hs_PF S.1 F ∧ ps F A ∧ tv a t F A ∧ kp a (F 16) S.2 A ∧ S.1 11 ≤ F 11 ∧ (F 16 = 0 → S.1 11 < F 11 ∨ t = 4 ∨ (b ∧ t = 2))
theorem rq_bad {a : Nat} {b : Prop} {S : hs_S} {t w : Int} (h : ps S.1 S.2) : rq a b S t (hs_up (hs_up S.1 16 1) 15 w) S.2 := by
  refine ⟨hs_fr.up rfl (hs_fr.up rfl hs_fr.rf), ?_, fun h => ?_, kp.rf, Int.le_refl _, fun h => ?_⟩
  · obtain ⟨h1, h2, h3, h4, h5, h6, h7, h8⟩ := h
    exact ⟨h1, h2, h3, h4, Or.inr rfl, h6, h7, h8⟩
  · exact absurd (show (1 : Int) = 0 from h) (by decide)
  · exact absurd (show (1 : Int) = 0 from h) (by decide)
theorem rq_open {q : Nat} {bb : Prop} {S : hs_S} {t op a b c d : Int} (h : ps S.1 S.2) (hbad : S.1 16 = 0) (hso : ¬ S.1 13 = 0) (h26 : S.1 26 < 8) (hop : op = 30 ∨ op = 31) (ht : (t = 1 ∧ gn q (S.1 19).toNat (S.1 25).toNat 0 S.2 ∧ sq (S.1 25).toNat S.2 ∧ op = 31) ∨ (t = 0 ∧ gn q (S.1 19).toNat (S.1 25).toNat 0 S.2 ∧ nosq (S.1 25).toNat S.2 ∧ op = 30)) (n1 : S.1 12 ≤ a) (n2 : a ≤ b) (n3 : b ≤ S.1 10) (n4 : 0 ≤ c) (n5 : c ≤ 3) (n6 : c = 0 → a = S.1 10) (n7 : ¬ c = 0 → a < b) : rq q bb S t (hs_up (hs_up (hs_up (hs_up (hs_up (hs_up S.1 11 a) 12 b) 13 c) 14 d) 26 (S.1 26 + 1)) 25 (S.1 25 + 1)) (hs_psh S.2 (S.1 25) op 0) := by
  obtain ⟨h1, h2, h3, h4, h5, h6, h7, h8⟩ := h
  have hlt := h4 hso
  have h8' := (h8.push (op := op) (t := 0) (by omega) (by omega)).le (d1 := a) (d2 := a) (by omega) (by rw [if_neg (by omega)]; omega)
  have hp := h8.1
  refine ⟨hs_fr.up rfl (hs_fr.up rfl (hs_fr.up rfl (hs_fr.up rfl (hs_fr.up rfl (hs_fr.up rfl hs_fr.rf))))), ⟨⟨h1.1, (by show 0 ≤ a; omega), n2, n3⟩, ⟨n4, n5⟩, n6, n7, Or.inl hbad, (by show -a ≤ S.1 26 + 1 ∧ S.1 26 + 1 ≤ 8; omega), h7, h8'⟩, fun _ => ?_, kp.psh, (by show S.1 11 ≤ a; omega), fun _ => Or.inl (by show S.1 11 < a; omega)⟩
  rcases ht with ⟨t1, t2, t3, t4⟩ | ⟨t1, t2, t3, t4⟩
  · exact Or.inr (Or.inl ⟨t1, gn_psh t2 hp (by unfold gp_ao; omega) (by rw [if_neg (by omega)]; rfl), sq_psh hp t3 (Or.inr (Or.inl t4))⟩)
  · exact Or.inl ⟨t1, gn_psh t2 hp (by unfold gp_ao; omega) (by rw [if_neg (by omega)]; rfl), nosq_psh hp t3 (by omega)⟩
theorem rq_leaf {q : Nat} {bb : Prop} {S : hs_S} {t op ar a b c d : Int} (h : ps S.1 S.2) (hbad : S.1 16 = 0) (hso : ¬ S.1 13 = 0) (h22 : S.1 22 < 50) (hop : 0 ≤ op ∧ op ≤ 16) (hg : gn q (S.1 19).toNat (S.1 25).toNat 0 S.2) (ht : (t = 3 ∧ sq (S.1 25).toNat S.2) ∨ (t = 2 ∧ nosq (S.1 25).toNat S.2)) (n1 : S.1 12 ≤ a) (n2 : a ≤ b) (n3 : b ≤ S.1 10) (n4 : 0 ≤ c) (n5 : c ≤ 3) (n6 : c = 0 → a = S.1 10) (n7 : ¬ c = 0 → a < b) : rq q bb S t (hs_up (hs_up (hs_up (hs_up (hs_up (hs_up S.1 11 a) 12 b) 13 c) 14 d) 19 (S.1 19 + 1)) 22 (S.1 22 + 1)) (hs_emt S.2 (S.1 19) op ar) := by
  obtain ⟨h1, h2, h3, h4, h5, h6, h7, h8⟩ := h
  have hlt := h4 hso
  have h8' := (h8.emit (op := op) (t := ar)).le (d1 := a) (d2 := a) (by omega) (by omega)
  have hn := h8.2.2.1
  have hql := hg.1
  refine ⟨hs_fr.up rfl (hs_fr.up rfl (hs_fr.up rfl (hs_fr.up rfl (hs_fr.up rfl (hs_fr.up rfl hs_fr.rf))))), ⟨⟨h1.1, (by show 0 ≤ a; omega), n2, n3⟩, ⟨n4, n5⟩, n6, n7, Or.inl hbad, (by show -a ≤ S.1 26 ∧ S.1 26 ≤ 8; omega), (by show 0 ≤ S.1 22 + 1 ∧ S.1 22 + 1 ≤ 50; omega), h8'⟩, fun _ => ?_, kp.emt hql, (by show S.1 11 ≤ a; omega), fun _ => Or.inl (by show S.1 11 < a; omega)⟩
  have hg' := gn_leaf (op := op) (t := ar) hg hn hop
  rcases ht with ⟨t1, t2⟩ | ⟨t1, t2⟩
  · exact Or.inr (Or.inr (Or.inr (Or.inl ⟨t1, hg', sq_e t2 (Nat.le_refl _) (emt_ne (by decide) (by decide))⟩)))
  · exact Or.inr (Or.inr (Or.inl ⟨t1, hg', nosq_e t2 (Nat.le_refl _) (emt_ne (by decide) (by decide))⟩))
/-- an operation is put on the pile, then the next token -/
theorem rq_op {q : Nat} {bb : Prop} {S : hs_S} {t op od od' a b c d : Int} {F : Nat → Int} {A : Nat → Nat → Int} (hF : hs_fr hs_PF S.1 F) (hk : kp q 0 S.2 A) (h11 : S.1 11 ≤ F 11) (h : ps F A) (hbad : F 16 = 0) (hso : ¬ F 13 = 0) (hop : 20 ≤ op ∧ op ≤ 27) (hg : gn q (F 19).toNat (F 25).toNat od A) (hs : od' + (if op ≤ 26 then 1 else 0) = od) (ht : (t = 1 ∧ od' = 0 ∧ sq (F 25).toNat A ∧ (op ≤ 23 ∨ nosq (F 25).toNat A)) ∨ (t = 0 ∧ od' = 0 ∧ nosq (F 25).toNat A)) (n1 : F 12 ≤ a) (n2 : a ≤ b) (n3 : b ≤ F 10) (n4 : 0 ≤ c) (n5 : c ≤ 3) (n6 : c = 0 → a = F 10) (n7 : ¬ c = 0 → a < b) : rq q bb S t (hs_up (hs_up (hs_up (hs_up (hs_up F 25 (F 25 + 1)) 11 a) 12 b) 13 c) 14 d) (hs_psh A (F 25) op 0) := by
  obtain ⟨h1, h2, h3, h4, h5, h6, h7, h8⟩ := h
  have hlt := h4 hso
  have h8' := (h8.push (op := op) (t := 0) (by omega) (by omega)).le (d1 := a) (d2 := a) (by omega) (by rw [if_pos (by omega)]; omega)
  have hp := h8.1
  refine ⟨hs_fr.up rfl (hs_fr.up rfl (hs_fr.up rfl (hs_fr.up rfl (hs_fr.up rfl hF)))), ⟨⟨h1.1, (by show 0 ≤ a; omega), n2, n3⟩, ⟨n4, n5⟩, n6, n7, Or.inl hbad, (by show -a ≤ F 26 ∧ F 26 ≤ 8; omega), h7, h8'⟩, fun _ => ?_, ⟨fun k h8 h9 h10 h11 => by rw [psh_ne h10 h11]; exact hk.1 k h8 h9 h10 h11, fun _ k hkq => by rw [psh_ne (by decide) (by decide), psh_ne (by decide) (by decide)]; exact hk.2 rfl k hkq⟩, (by show S.1 11 ≤ a; omega), fun _ => Or.inl (by show S.1 11 < a; omega)⟩
  have hg' := gn_psh (op := op) (t := 0) hg hp (by unfold gp_ao; omega) hs
  rcases ht with ⟨t1, t2, t3, t4⟩ | ⟨t1, t2, t3⟩
  · subst t2
    refine Or.inr (Or.inl ⟨t1, hg', sq_psh hp t3 ?_⟩)
    rcases t4 with t4 | t4
    · exact Or.inl (by omega)
    · exact Or.inr (Or.inr t4)
  · subst t2
    exact Or.inl ⟨t1, hg', nosq_psh hp t3 (by omega)⟩
def t_readPart : hs_T := fun as S post => match as with
  | [(4, z)] => z = 0 ∧ S.1 16 = 0 ∧ hs_o (ps S.1 S.2) ∧ ∃ q, gn q (S.1 19).toNat (S.1 25).toNat 0 S.2 ∧ sq (S.1 25).toNat S.2 ∧ ∀ t F A, (t = 1 ∨ t = 3) → rq q False S t F A → post [(0, t)] (F, A)
  | _ => False
theorem c_readPart : hs_C hs_sh 125 t_readPart := by
  refine hs_met0 (nL := 3) (n0 := 80) [] e_7 (by decide +kernel) rfl rfl ?_
  intro as S post h
  unfold t_readPart at h
  split at h
  · obtain ⟨rfl, hbad, ⟨-, hps⟩, q, hg, hsq, hp⟩ := h
    refine ⟨Nat.le_of_ble_eq_true rfl, ?_⟩
    have hps0 := hps
    obtain ⟨h1, h2, h3, h4, h5, h6, h7, h8, h9, h10, h11, -⟩ := hps
    have h12 : (0 : Int) ≤ (gp_c 27 (S.2 10) (S.1 25).toNat : Int) := Int.natCast_nonneg _
    have K1 : ∀ t w, (t = 1 ∨ t = 3) → post [(0, t)] (hs_up (hs_up S.1 16 1) 15 w, S.2) := fun t w ht => hp t _ _ ht (rq_bad hps0)
    have K2 : S.1 13 = 3 → S.1 26 < 8 → ∀ a b c d, S.1 12 ≤ a → a ≤ b → b ≤ S.1 10 → 0 ≤ c → c ≤ 3 → (c = 0 → a = S.1 10) → (¬ c = 0 → a < b) →  post [(0, 1)] (hs_up (hs_up (hs_up (hs_up (hs_up (hs_up S.1 11 a) 12 b) 13 c) 14 d) 26 (S.1 26 + 1)) 25 (S.1 25 + 1), hs_psh S.2 (S.1 25) 31 0) := fun k1 k2 a b c d n1 n2 n3 n4 n5 n6 n7 => hp 1 _ _ (Or.inl rfl) (rq_open hps0 hbad (by omega) k2 (Or.inr rfl) (Or.inl ⟨rfl, hg, hsq, rfl⟩) n1 n2 n3 n4 n5 n6 n7)
    have K3 : ∀ op ar, ¬ S.1 13 = 0 → 0 ≤ op → op ≤ 16 → S.1 22 < 50 → ∀ a b c d, S.1 12 ≤ a → a ≤ b → b ≤ S.1 10 → 0 ≤ c → c ≤ 3 → (c = 0 → a = S.1 10) → (¬ c = 0 → a < b) →  post [(0, 3)] (hs_up (hs_up (hs_up (hs_up (hs_up (hs_up S.1 11 a) 12 b) 13 c) 14 d) 19 (S.1 19 + 1)) 22 (S.1 22 + 1), hs_emt S.2 (S.1 19) op ar) := fun op ar k1 k2 k3 k4 a b c d n1 n2 n3 n4 n5 n6 n7 => hp 3 _ _ (Or.inr rfl) (rq_leaf hps0 hbad k1 k4 ⟨k2, k3⟩ hg (Or.inl ⟨rfl, hsq⟩) n1 n2 n3 n4 n5 n6 n7)
    clear hp hps0 hg hsq
    repeat' (first | (refine And.intro ?_ ?_) | (intro _))
    all_goals (first | omega | (dsimp only at *; omega) | (refine K1 _ _ ?_; omega) | (refine K2 ?_ ?_ _ _ _ _ ?_ ?_ ?_ ?_ ?_ ?_ ?_ <;> omega) | (refine K3 _ _ ?_ ?_ ?_ ?_ _ _ _ _ ?_ ?_ ?_ ?_ ?_ ?_ ?_ <;> first | omega | (dsimp only at *; omega)))
  · cases h

/-! ===== the reference's pile ===== -/
def gp_ok (P : Nat) (A : Nat → Nat → Int) : Prop := ∀ i, i < P → (20 ≤ A 10 i ∧ A 10 i ≤ 31) ∧ 0 ≤ A 11 i ∧ A 11 i < 400
def gp_b (op : Int) : Int := if 30 ≤ op then 0 else if op = 29 then 1 else if op = 28 then 2 else if op = 27 then 3 else if 24 ≤ op then 4 else if 22 ≤ op then 6 else 5
theorem gp_b_of {op r : Int} (h1 : 30 ≤ op → r = 0) (h2 : op = 29 → r = 1) (h3 : op = 28 → r = 2) (h4 : op = 27 → r = 3) (h5 : 24 ≤ op → op ≤ 26 → r = 4) (h6 : 22 ≤ op → op ≤ 23 → r = 6) (h7 : op < 22 → r = 5) : r = gp_b op := by
  unfold gp_b
  split
  · omega
  · split
    · omega
    · split
      · omega
      · split
        · omega
        · split
          · omega
          · split <;> omega
/-- what settling has done so far: to a pile of P' and code up to N' -/
def k_set (l : Int) (P N P' N' : Nat) (A A' : Nat → Nat → Int) : Prop := P' ≤ P ∧ N' + gp_c 27 (A 10) P' = N + gp_c 27 (A 10) P ∧ N ≤ N' ∧ (∀ k, ¬ k = 8 → ¬ k = 9 → A' k = A k) ∧ (∀ k, k < N → A' 8 k = A 8 k) ∧ (∀ a, gn a N P 1 A → gn a N' P' 1 A' ∧ ∀ k, k < a → A' 9 k = A 9 k) ∧ ∀ i, P' ≤ i → i < P → l ≤ gp_b (A 10 i)
theorem k_set_0 {l : Int} {P N : Nat} {A : Nat → Nat → Int} : k_set l P N P N A A := ⟨Nat.le_refl _, rfl, Nat.le_refl _, fun _ _ _ => rfl, fun _ _ => rfl, fun a h => ⟨h, fun _ _ => rfl⟩, fun i h1 h2 => by omega⟩
theorem k_set_ao {l : Int} {P N P' N' : Nat} {A A' : Nat → Nat → Int} (h : k_set l P N (P' + 1) N' A A') (hb : l ≤ gp_b (A 10 P')) (hao : gp_ao (A 10 P')) : k_set l P N P' N' A (hs_ua A' 9 (A 11 P').toNat N') := by
  obtain ⟨h1, h2, h3, h4, h5, h6, h7⟩ := h
  have e0 : gp_c 27 (A 10) (P' + 1) = gp_c 27 (A 10) P' := gp_c_0 (by unfold gp_ao at hao; omega)
  have e10 := h4 10 (by decide) (by decide)
  have e11 := h4 11 (by decide) (by decide)
  refine ⟨by omega, by omega, h3, fun k k8 k9 => by rw [hs_ua_ne k9]; exact h4 k k8 k9, fun k hk => by rw [hs_ua_ne (by decide)]; exact h5 k hk, fun a ha => ?_, fun i i1 i2 => ?_⟩
  · obtain ⟨g1, g2⟩ := h6 a ha
    have q := g1.2
    obtain ⟨d, -, -, -, -, q6⟩ := q
    have q7 := q6 P' (by omega) (by rw [e10]; exact hao)
    rw [e11] at q7
    refine ⟨gn_res g1 (by rw [e10]; exact hao) (fun k _ => by rw [hs_ua_ne (by decide)]) (fun k _ => by rw [hs_ua_k, e11]) (fun i _ => by rw [hs_ua_ne (by decide)]) (fun i _ => by rw [hs_ua_ne (by decide)]), fun k hk => ?_⟩
    rw [hs_ua_k, if_neg (by omega)]
    exact g2 k hk
  · by_cases e : i = P'
    · rw [e]; exact hb
    · exact h7 i (by omega) i2
theorem k_set_op {l : Int} {P N P' N' : Nat} {A A' : Nat → Nat → Int} (h : k_set l P N (P' + 1) N' A A') (hb : l ≤ gp_b (A 10 P')) (hop : 20 ≤ A 10 P' ∧ A 10 P' ≤ 27) : k_set l P N P' (N' + 1) A (hs_ua (hs_ua A' 8 N' (A 10 P')) 9 N' 0) := by
  obtain ⟨h1, h2, h3, h4, h5, h6, h7⟩ := h
  have e0 : gp_c 27 (A 10) (P' + 1) = gp_c 27 (A 10) P' + 1 := gp_c_1 hop.2
  have e10 := h4 10 (by decide) (by decide)
  have e11 := h4 11 (by decide) (by decide)
  have ne : ∀ k, ¬ k = 8 → ¬ k = 9 → hs_ua (hs_ua A' 8 N' (A 10 P')) 9 N' 0 k = A' k := fun k k8 k9 => by rw [hs_ua_ne k9, hs_ua_ne k8]
  have n8 : ∀ k, hs_ua (hs_ua A' 8 N' (A 10 P')) 9 N' 0 8 k = if k = N' then A 10 P' else A' 8 k := fun k => by rw [hs_ua_ne (by decide), hs_ua_k]
  have n9 : ∀ k, hs_ua (hs_ua A' 8 N' (A 10 P')) 9 N' 0 9 k = if k = N' then 0 else A' 9 k := fun k => by rw [hs_ua_k, hs_ua_ne (by decide)]
  refine ⟨by omega, by omega, by omega, fun k k8 k9 => by rw [ne k k8 k9]; exact h4 k k8 k9, fun k hk => by rw [n8, if_neg (by omega)]; exact h5 k hk, fun a ha => ?_, fun i i1 i2 => ?_⟩
  · obtain ⟨g1, g2⟩ := h6 a ha
    have hb26 : (gp_c 26 (A' 10) (P' + 1) : Int) = gp_c 26 (A' 10) P' + (if A 10 P' ≤ 26 then 1 else 0) := by
      rw [e10]
      by_cases e : A 10 P' ≤ 26
      · rw [gp_c_1 e, if_pos e]; omega
      · rw [gp_c_0 (by omega), if_neg e]; omega
    refine ⟨gn_ext g1 (fun k hk => by rw [n8, if_neg (by omega)]) (fun k hk => by rw [n9, if_neg (by omega)]) (by omega) (fun i _ => by rw [ne 10 (by decide) (by decide)]) (fun i _ => by rw [ne 11 (by decide) (by decide)]) (fun i i1 i2 => ?_) ?_ (by omega), fun k hk => ?_⟩
    · have ei : i = P' := by omega
      rw [ei, e10]
      unfold gp_ao
      omega
    · rw [n8, if_pos rfl, hb26]
      by_cases e : A 10 P' ≤ 26
      · rw [if_pos e]; omega
      · rw [if_neg e]; omega
    · have := g1.1
      rw [n9, if_neg (by omega)]
      exact g2 k hk
  · by_cases e : i = P'
    · rw [e]; exact hb
    · exact h7 i (by omega) i2
/-- a box that isn't looked into -/
def hs_o (p : Prop) : Prop := ∃ _ : True, p
theorem hs_o.of {p : Prop} (h : p) : hs_o p := ⟨trivial, h⟩
theorem hs_o.to {p : Prop} (h : hs_o p) : p := h.2
def t_settle : hs_T := fun as S post => match as with
  | [(4, z), (0, l)] => z = 0 ∧ (0 ≤ S.1 25 ∧ S.1 25 ≤ 400) ∧ 0 ≤ S.1 19 ∧ S.1 19 + gp_c 27 (S.2 10) (S.1 25).toNat ≤ 400 ∧ hs_o (gp_ok (S.1 25).toNat S.2) ∧ 1 ≤ l ∧ ∀ (P' N' : Nat) (A' : Nat → Nat → Int), k_set l (S.1 25).toNat (S.1 19).toNat P' N' S.2 A' → (P' = 0 ∨ gp_b (S.2 10 (P' - 1)) < l) → post [] (hs_up (hs_up S.1 25 P') 19 N', A')
  | _ => False
def i_set (S : hs_S) (l : Int) (k : Nat) (F : Nat → Int) (A : Nat → Nat → Int) : Prop := ∃ P' N' : Nat, F 25 = P' ∧ F 19 = N' ∧ k_set l (S.1 25).toNat (S.1 19).toNat P' N' S.2 A ∧ P' ≤ k
theorem hs_fr_2 {i j : Nat} {f F : Nat → Int} (hij : ¬ i = j) (h : hs_fr [j, i] f F) : F = hs_up (hs_up f i (F i)) j (F j) := by
  funext k
  by_cases e : k = j
  · subst e; rw [hs_up_eq]
  · rw [hs_up_ne e]
    by_cases e2 : k = i
    · subst e2; rw [hs_up_eq]
    · rw [hs_up_ne e2]
      exact h k (by simp [e, e2])
theorem gp_bp {x : Int} (h1 : 20 ≤ x) (h2 : x ≤ 31) (l : Int) (hl : 1 ≤ l) (h : l ≤ gp_b x) : x ≤ 29 := by
  unfold gp_b at h
  split at h <;> omega
theorem c_settle : hs_C hs_sh 141 t_settle := by
  refine hs_met1 (nL := 2) (n := 60) [] [0] e_6 (by decide +kernel) rfl rfl ?_
  intro as S post h
  unfold t_settle at h
  split at h
  · rename_i z l
    obtain ⟨rfl, h25, h19, hpot, ⟨-, hok⟩, hl, hp⟩ := h
    refine ⟨Nat.le_of_ble_eq_true rfl, fun hh k g st S' => g = [(0, (4, 0)), (1, (0, l))] ∧ st = [] ∧ ∃ F A, S' = (F, A) ∧ hs_fr [19, 25] S.1 F ∧ i_set S l k F A, ⟨List.mem_cons_self, (S.1 25).toNat, rfl, rfl, S.1, S.2, rfl, hs_fr.rf, (S.1 25).toNat, (S.1 19).toNat, by omega, by omega, k_set_0, Nat.le_refl _⟩, ?_⟩
    intro hh hm
    simp only [List.mem_cons, List.not_mem_nil, or_false] at hm
    subst hm
    intro k g st S' hI
    obtain ⟨rfl, rfl, F, A, rfl, hF, P', N', e25, e19, hk, hk1⟩ := hI
    have hk' := hk
    obtain ⟨q1, q2, q3, q4, q5, q6, q7⟩ := hk
    have e10 := q4 10 (by decide) (by decide)
    have e11 := q4 11 (by decide) (by decide)
    refine And.intro (fun g1 => ?_) (fun g1 => ?_)
    · -- the pile is empty
      have g2 : F 25 ≤ 0 := g1
      show post [] (F, A)
      rw [hs_fr_2 (by decide) hF, e25, e19]
      exact hp P' N' A hk' (Or.inl (by omega))
    have g2 : ¬ F 25 ≤ 0 := g1
    obtain ⟨P, rfl⟩ : ∃ P, P' = P + 1 := ⟨P' - 1, by omega⟩
    have ep : (F 25 - 1).toNat = P := by omega
    have hokP := hok P (by omega)
    refine And.intro ?_ (And.intro ?_ ?_)
    · show -2147483648 ≤ F 25 - 1 ∧ F 25 - 1 ≤ 2147483647
      omega
    · show 0 ≤ F 25 - 1 ∧ F 25 - 1 < (400 : Nat)
      omega
    intro r b1 b2 b3 b4 b5 b6 b7
    have er : r = gp_b (S.2 10 P) := by
      have := gp_b_of b1 b2 b3 b4 b5 b6 b7
      rw [this]
      show gp_b (A 10 (F 25 - 1).toNat) = _
      rw [ep, e10]
    refine And.intro (fun g3 => ?_) (fun g3 => ?_)
    · have g4 : r < l := g3
      show post [] (F, A)
      rw [hs_fr_2 (by decide) hF, e25, e19]
      exact hp (P + 1) N' A hk' (Or.inr (by rw [Nat.add_sub_cancel, ← er]; exact g4))
    have g4 : l ≤ gp_b (S.2 10 P) := by
      have : ¬ r < l := g3
      omega
    have hle := gp_bp hokP.1.1 hokP.1.2 l hl g4
    have hpo : N' + gp_c 27 (S.2 10) (P + 1) ≤ 400 := by omega
    have eF1 : hs_up F 25 (F 25 - 1) 25 = (P : Int) := by rw [hs_up_eq]; omega
    have eF2 : hs_up F 25 (F 25 - 1) 19 = (N' : Int) := by rw [hs_up_ne (by decide)]; exact e19
    refine And.intro ?_ (And.intro ?_ ?_)
    · show -2147483648 ≤ F 25 - 1 ∧ F 25 - 1 ≤ 2147483647
      omega
    · show 0 ≤ F 25 - 1 ∧ F 25 - 1 < (400 : Nat)
      omega
    refine And.intro (fun g5 => ?_) (fun g5 => ?_)
    · have g6 : A 10 (F 25 - 1).toNat = 28 := g5
      rw [ep, e10] at g6
      have hao : gp_ao (S.2 10 P) := Or.inl g6
      refine And.intro ?_ (And.intro ?_ (Exists.intro P (And.intro (by omega) (Exists.intro [(0, (4, 0)), (1, (0, l))] (And.intro (And.intro rfl (And.intro rfl trivial)) (And.intro rfl (And.intro rfl (Exists.intro _ (Exists.intro _ (And.intro rfl (And.intro (hs_fr.up rfl hF) (Exists.intro P (Exists.intro N' (And.intro eF1 (And.intro eF2 (And.intro ?_ (Nat.le_refl _)))))))))))))))))
      · show 0 ≤ F 25 - 1 ∧ F 25 - 1 < (400 : Nat)
        omega
      · show 0 ≤ A 11 (F 25 - 1).toNat ∧ A 11 (F 25 - 1).toNat < (400 : Nat)
        rw [ep, e11]
        exact hokP.2
      · show k_set l _ _ P N' S.2 (hs_ua A 9 (A 11 (F 25 - 1).toNat).toNat (F 19))
        rw [ep, e11, e19]
        exact k_set_ao hk' g4 hao
    · have g6 : ¬ A 10 (F 25 - 1).toNat = 28 := g5
      rw [ep, e10] at g6
      refine And.intro ?_ (And.intro (fun g7 => ?_) (fun g7 => ?_))
      · show 0 ≤ F 25 - 1 ∧ F 25 - 1 < (400 : Nat)
        omega
      · have g8 : ¬ A 10 (F 25 - 1).toNat = 29 := g7
        rw [ep, e10] at g8
        refine And.intro ?_ (And.intro rfl (And.intro ?_ (Exists.intro P (And.intro (by omega) (Exists.intro [(0, (4, 0)), (1, (0, l))] (And.intro (And.intro rfl (And.intro rfl trivial)) (And.intro rfl (And.intro rfl (Exists.intro _ (Exists.intro _ (And.intro rfl (And.intro (hs_fr.up rfl (hs_fr.up rfl hF)) (Exists.intro P (Exists.intro (N' + 1) (And.intro ?_ (And.intro ?_ (And.intro ?_ (Nat.le_refl _))))))))))))))))))
        · show 0 ≤ F 25 - 1 ∧ F 25 - 1 < (400 : Nat)
          omega
        · show 0 ≤ F 19 ∧ F 19 < 400
          have e0 : gp_c 27 (S.2 10) (P + 1) = gp_c 27 (S.2 10) P + 1 := gp_c_1 (by omega)
          omega
        · show F 25 - 1 = P
          omega
        · show F 19 + 1 = ((N' + 1 : Nat) : Int)
          omega
        · show k_set l _ _ P (N' + 1) S.2 (hs_ua (hs_ua A 8 (F 19).toNat (A 10 (F 25 - 1).toNat)) 9 (F 19).toNat 0)
          rw [ep, e10, e19]
          exact k_set_op hk' g4 ⟨hokP.1.1, by omega⟩
      · have g8 : A 10 (F 25 - 1).toNat = 29 := g7
        rw [ep, e10] at g8
        have hao : gp_ao (S.2 10 P) := Or.inr g8
        refine And.intro ?_ (And.intro ?_ (Exists.intro P (And.intro (by omega) (Exists.intro [(0, (4, 0)), (1, (0, l))] (And.intro (And.intro rfl (And.intro rfl trivial)) (And.intro rfl (And.intro rfl (Exists.intro _ (Exists.intro _ (And.intro rfl (And.intro (hs_fr.up rfl hF) (Exists.intro P (Exists.intro N' (And.intro eF1 (And.intro eF2 (And.intro ?_ (Nat.le_refl _)))))))))))))))))
        · show 0 ≤ F 25 - 1 ∧ F 25 - 1 < (400 : Nat)
          omega
        · show 0 ≤ A 11 (F 25 - 1).toNat ∧ A 11 (F 25 - 1).toNat < (400 : Nat)
          rw [ep, e11]
          exact hokP.2
        · show k_set l _ _ P N' S.2 (hs_ua A 9 (A 11 (F 25 - 1).toNat).toNat (F 19))
          rw [ep, e11, e19]
          exact k_set_ao hk' g4 hao
  · cases h
def k_inn (f : Nat → Int) (P : Nat) (r : Int) : Prop := (r = -1 ∧ ∀ i, i < P → f i < 30) ∨ ∃ m, m < P ∧ 30 ≤ f m ∧ r = f m ∧ ∀ j, m < j → j < P → f j < 30
theorem k_inn_0 {f : Nat → Int} : k_inn f 0 (-1) := Or.inl ⟨rfl, fun i h => by omega⟩
theorem k_inn_a {f : Nat → Int} {P : Nat} {r : Int} (h : k_inn f P r) (hf : f P < 30) : k_inn f (P + 1) r := by
  rcases h with ⟨h1, h2⟩ | ⟨m, h1, h2, h3, h4⟩
  · exact Or.inl ⟨h1, fun i hi => by
      by_cases e : i = P
      · rw [e]; exact hf
      · exact h2 i (by omega)⟩
  · exact Or.inr ⟨m, by omega, h2, h3, fun j j1 j2 => by
      by_cases e : j = P
      · rw [e]; exact hf
      · exact h4 j j1 (by omega)⟩
theorem k_inn_b {f : Nat → Int} {P : Nat} (hf : 30 ≤ f P) : k_inn f (P + 1) (f P) := Or.inr ⟨P, by omega, hf, rfl, fun j j1 j2 => by omega⟩
def t_inner : hs_T := fun as S post => match as with
  | [(4, z)] => z = 0 ∧ (0 ≤ S.1 25 ∧ S.1 25 ≤ 400) ∧ ∀ r, k_inn (S.2 10) (S.1 25).toNat r → post [(0, r)] S
  | _ => False
theorem c_inner : hs_C hs_sh 72 t_inner := by
  refine hs_met (nL := 3) (n0 := 40) (n := 40) [] [4] e_6 (by decide +kernel) rfl rfl ?_
  intro as S post h
  unfold t_inner at h
  split at h
  · obtain ⟨rfl, h25, hp⟩ := h
    refine ⟨Nat.le_of_ble_eq_true rfl, fun hh k g st S' => st = [] ∧ S' = S ∧ ∃ (n : Nat) (r : Int), g = [(0, (4, 0)), (1, (0, r)), (2, (0, (n : Int)))] ∧ (n : Int) ≤ S.1 25 ∧ k_inn (S.2 10) n r ∧ S.1 25 - n ≤ k, ?_, ?_⟩
    · exact Exists.intro 100000 (Exists.intro [(0, (4, 0)), (1, (0, -1)), (2, (0, ((0 : Nat) : Int)))] (And.intro (And.intro rfl (And.intro rfl (And.intro rfl trivial))) (And.intro rfl (And.intro rfl (Exists.intro 0 (Exists.intro (-1) (And.intro rfl (And.intro (by omega) (And.intro k_inn_0 (by omega))))))))))
    · intro hh hm
      simp only [List.mem_cons, List.not_mem_nil, or_false] at hm
      subst hm
      intro k g st S' hI
      obtain ⟨rfl, rfl, n, r, rfl, hn, hk, hk1⟩ := hI
      refine And.intro (fun g1 => ?_) (fun g1 => ?_)
      · have g2 : S'.1 25 ≤ n := g1
        show post [(0, r)] S'
        refine hp r ?_
        rw [show (S'.1 25).toNat = n by omega]
        exact hk
      have g2 : ¬ S'.1 25 ≤ n := g1
      refine And.intro ?_ (And.intro (fun g3 => ?_) (fun g3 => ?_))
      · show 0 ≤ (n : Int) ∧ (n : Int) < (400 : Nat)
        omega
      · have g4 : S'.2 10 n < 30 := g3
        refine And.intro ?_ (Exists.intro (k - 1) (And.intro (by omega) (Exists.intro [(0, (4, 0)), (1, (0, r)), (2, (0, ((n + 1 : Nat) : Int)))] (And.intro (And.intro rfl (And.intro rfl (And.intro rfl trivial))) (And.intro rfl (And.intro rfl (Exists.intro (n + 1) (Exists.intro r (And.intro rfl (And.intro (by omega) (And.intro (k_inn_a hk g4) (by omega))))))))))))
        show -2147483648 ≤ (n : Int) + 1 ∧ (n : Int) + 1 ≤ 2147483647
        omega
      · have g4 : ¬ S'.2 10 n < 30 := g3
        refine And.intro ?_ (And.intro ?_ (Exists.intro (k - 1) (And.intro (by omega) (Exists.intro [(0, (4, 0)), (1, (0, S'.2 10 n)), (2, (0, ((n + 1 : Nat) : Int)))] (And.intro (And.intro rfl (And.intro rfl (And.intro rfl trivial))) (And.intro rfl (And.intro rfl (Exists.intro (n + 1) (Exists.intro (S'.2 10 n) (And.intro rfl (And.intro (by omega) (And.intro (k_inn_b (by omega)) (by omega)))))))))))))
        · show 0 ≤ (n : Int) ∧ (n : Int) < (400 : Nat)
          omega
        · show -2147483648 ≤ (n : Int) + 1 ∧ (n : Int) + 1 ≤ 2147483647
          omega
  · cases h
def t_isCompared : hs_T := fun as S post => match as with
  | [(4, z)] => z = 0 ∧ (0 ≤ S.1 25 ∧ S.1 25 ≤ 400) ∧ ∀ r, (r = 0 ∨ r = 1) → post [(0, r)] S
  | _ => False
theorem c_isCompared : hs_C hs_sh 77 t_isCompared := by
  refine hs_met (nL := 2) (n0 := 60) (n := 60) [] [7] e_6 (by decide +kernel) rfl rfl ?_
  intro as S post h
  unfold t_isCompared at h
  split at h
  · obtain ⟨rfl, h25, hp⟩ := h
    refine ⟨Nat.le_of_ble_eq_true rfl, fun hh k g st S' => st = [] ∧ S' = S ∧ ∃ (n : Int), g = [(0, (4, 0)), (1, (0, n))] ∧ (-1 ≤ n ∧ n < S.1 25) ∧ n + 1 ≤ k, ?_, ?_⟩
    · refine And.intro ?_ (Exists.intro 100000 (Exists.intro [(0, (4, 0)), (1, (0, S.1 25 - 1))] (And.intro (And.intro rfl (And.intro rfl trivial)) (And.intro rfl (And.intro rfl (Exists.intro _ (And.intro rfl (And.intro (by omega) (by omega)))))))))
      show -2147483648 ≤ S.1 25 - 1 ∧ S.1 25 - 1 ≤ 2147483647
      omega
    · intro hh hm
      simp only [List.mem_cons, List.not_mem_nil, or_false] at hm
      subst hm
      intro k g st S' hI
      obtain ⟨rfl, rfl, n, rfl, hn, hk1⟩ := hI
      have cut : 0 ≤ n → ∃ k', k' < k ∧ hs_J (fun g st S'' => st = [] ∧ S'' = S' ∧ ∃ (n : Int), g = [(0, (4, 0)), (1, (0, n))] ∧ (-1 ≤ n ∧ n < S'.1 25) ∧ n + 1 ≤ k') [(1, (0, n - 1)), (0, (4, 0))] [] S' := fun h0 => Exists.intro (k - 1) (And.intro (by omega) (Exists.intro [(0, (4, 0)), (1, (0, n - 1))] (And.intro (And.intro rfl (And.intro rfl trivial)) (And.intro rfl (And.intro rfl (Exists.intro _ (And.intro rfl (And.intro (by omega) (by omega)))))))))
      repeat' (first | (refine And.intro ?_ ?_) | (intro _))
      all_goals (first | omega | (dsimp only at *; omega) | (refine hp _ ?_; omega) | (refine cut ?_; first | omega | (dsimp only at *; omega)))
  · cases h
def E_7 : hs_E := hs_ad (hs_ad (hs_ad E_6 141 t_settle) 72 t_inner) 77 t_isCompared
theorem e_7 : ∀ K, hs_C hs_sh K (E_7 K) := hs_ad_ok (hs_ad_ok (hs_ad_ok e_6 c_settle) c_inner) c_isCompared

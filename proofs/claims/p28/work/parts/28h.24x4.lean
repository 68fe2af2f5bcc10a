/-! ===== the class's readers, by hand (by wip/gen/mkhc3.py) ===== -/
abbrev u_of (S : hs_S) (b k i : Int) : Prop := ug S 18 5 i 0 = b ∧ ug S 18 5 i 4 ≤ k
abbrev u_os (S : hs_S) (i : Int) : Prop := ¬ ug S 18 5 i 3 = ug S 16 2 (ug S 18 5 i 0) 1
abbrev u_ia (S : hs_S) (i j : Int) : Prop := ug S 18 5 i 2 < ug S 18 5 j 2 ∨ (ug S 18 5 i 2 = ug S 18 5 j 2 ∧ i < j)
def lh (S : hs_S) (b d k : Int) : Nat → Int
  | 0 => -1
  | i + 1 => if u_of S b k i ∧ ug S 18 5 i 2 ≤ d ∧ ug S 18 5 (lh S b d k i) 2 ≤ ug S 18 5 i 2 then i else lh S b d k i
def fb (S : hs_S) (b k : Int) : Nat → Int
  | 0 => -1
  | i + 1 => if u_of S b k i ∧ u_os S i ∧ (fb S b k i = -1 ∨ ug S 18 5 i 2 < ug S 18 5 (fb S b k i) 2) then i else fb S b k i
def ah (S : hs_S) (t k : Int) : Nat → Int
  | 0 => -1
  | i + 1 => if u_of S (ug S 18 5 t 0) k i ∧ u_ia S i t ∧ (ah S t k i = -1 ∨ u_ia S (ah S t k i) i) then i else ah S t k i
def u_bt (S : hs_S) (i : Int) : Int := ug S 16 2 (ug S 22 5 i 0) 0
def tf (S : hs_S) (b : Int) : Nat → Int
  | 0 => 0
  | i + 1 => if u_bt S i = b then tf S b i + 1 else tf S b i
def su (S : hs_S) (b w : Int) : Nat → Int
  | 0 => 0
  | i + 1 => if u_bt S i = b then su S b w i + ug S 22 5 i 3 * (if w = 0 then 1 else tf S b i + 1) else su S b w i
theorem lh_s {S : hs_S} {b d k : Int} {i : Nat} : lh S b d k (i + 1) = if u_of S b k i ∧ ug S 18 5 i 2 ≤ d ∧ ug S 18 5 (lh S b d k i) 2 ≤ ug S 18 5 i 2 then (i : Int) else lh S b d k i := rfl
theorem fb_s {S : hs_S} {b k : Int} {i : Nat} : fb S b k (i + 1) = if u_of S b k i ∧ u_os S i ∧ (fb S b k i = -1 ∨ ug S 18 5 i 2 < ug S 18 5 (fb S b k i) 2) then (i : Int) else fb S b k i := rfl
theorem ah_s {S : hs_S} {t k : Int} {i : Nat} : ah S t k (i + 1) = if u_of S (ug S 18 5 t 0) k i ∧ u_ia S i t ∧ (ah S t k i = -1 ∨ u_ia S (ah S t k i) i) then (i : Int) else ah S t k i := rfl
theorem tf_s {S : hs_S} {b : Int} {i : Nat} : tf S b (i + 1) = if u_bt S i = b then tf S b i + 1 else tf S b i := rfl
theorem su_s {S : hs_S} {b w : Int} {i : Nat} : su S b w (i + 1) = if u_bt S i = b then su S b w i + ug S 22 5 i 3 * (if w = 0 then 1 else tf S b i + 1) else su S b w i := rfl
theorem tf_b {S : hs_S} {b : Int} : ∀ i : Nat, 0 ≤ tf S b i ∧ tf S b i ≤ i
  | 0 => ⟨Int.le_refl _, Int.le_refl _⟩
  | i + 1 => by
    have := tf_b (S := S) (b := b) i
    rw [tf_s]
    split <;> omega
theorem su_m {x y : Int} (h : -1 ≤ x ∧ x ≤ 16383) (g : 1 ≤ y ∧ y ≤ 200) : -200 ≤ x * y ∧ x * y ≤ 3276600 := by
  have h1 : (x + 1) * y ≤ 16384 * y := Int.mul_le_mul_of_nonneg_right (by omega) (by omega)
  have h2 : 0 ≤ (x + 1) * y := Int.mul_nonneg (by omega) (by omega)
  rw [Int.add_mul, Int.one_mul] at h1 h2
  have h3 : x * y ≤ 16383 * y := Int.mul_le_mul_of_nonneg_right h.2 (by omega)
  omega
theorem su_b {S : hs_S} {b w : Int} (h : ∀ i : Int, -1 ≤ ug S 22 5 i 3 ∧ ug S 22 5 i 3 ≤ 16383) : ∀ i : Nat, i ≤ 200 → -200 * (i : Int) ≤ su S b w i ∧ su S b w i ≤ 3276600 * (i : Int)
  | 0, _ => ⟨by show -200 * ((0 : Nat) : Int) ≤ 0; omega, by show (0 : Int) ≤ 3276600 * ((0 : Nat) : Int); omega⟩
  | i + 1, hi => by
    have h1 := su_b (b := b) (w := w) h i (by omega)
    have h2 := tf_b (S := S) (b := b) i
    have h3 := h i
    rw [su_s]
    split
    · have h4 : -200 ≤ ug S 22 5 i 3 * (if w = 0 then 1 else tf S b i + 1) ∧ ug S 22 5 i 3 * (if w = 0 then 1 else tf S b i + 1) ≤ 3276600 := by
        have h5 : 1 ≤ (if w = 0 then 1 else tf S b i + 1) ∧ (if w = 0 then 1 else tf S b i + 1) ≤ 200 := by
          split <;> omega
        exact su_m h3 h5
      omega
    · omega
def u_hdl : hs_T := fun as S post => match as with
  | [(4, z), (0, i), (0, b), (0, k)] => z = 1 ∧ u_Tb S 18 5 200 ∧ (u_of S b k i → post [(0, 1)] S) ∧ (¬ u_of S b k i → post [(0, 0)] S)
  | _ => False
def u_hos : hs_T := fun as S post => match as with
  | [(4, z), (0, i)] => z = 1 ∧ u_Tb S 18 5 200 ∧ u_Tb S 16 2 40 ∧ (u_os S i → post [(0, 1)] S) ∧ (¬ u_os S i → post [(0, 0)] S)
  | _ => False
def u_isa : hs_T := fun as S post => match as with
  | [(4, z), (0, i), (0, j)] => z = 1 ∧ u_Tb S 18 5 200 ∧ (u_ia S i j → post [(0, 1)] S) ∧ (¬ u_ia S i j → post [(0, 0)] S)
  | _ => False
def u_bot : hs_T := fun as S post => match as with
  | [(4, z), (0, i)] => z = 1 ∧ u_Tb S 16 2 40 ∧ u_Tb S 22 5 200 ∧ post [(0, u_bt S i)] S
  | _ => False
def u_lat : hs_T := fun as S post => match as with
  | [(4, z), (0, b), (0, d), (0, k)] => z = 1 ∧ u_Tb S 18 5 200 ∧ post [(0, lh S b d k (S.1 1155).toNat)] S
  | _ => False
def u_fst : hs_T := fun as S post => match as with
  | [(4, z), (0, b), (0, k)] => z = 1 ∧ u_Tb S 18 5 200 ∧ u_Tb S 16 2 40 ∧ post [(0, fb S b k (S.1 1155).toNat)] S
  | _ => False
def u_ahd : hs_T := fun as S post => match as with
  | [(4, z), (0, t), (0, k)] => z = 1 ∧ u_Tb S 18 5 200 ∧ post [(0, ah S t k (S.1 1155).toNat)] S
  | _ => False
def u_tof : hs_T := fun as S post => match as with
  | [(4, z), (0, b)] => z = 1 ∧ u_Tb S 22 5 200 ∧ u_Tb S 16 2 40 ∧ post [(0, tf S b (S.1 1411).toNat)] S
  | _ => False
def u_sof : hs_T := fun as S post => match as with
  | [(4, z), (0, b), (0, w)] => z = 1 ∧ u_Tb S 22 5 200 ∧ u_Tb S 16 2 40 ∧ (∀ i : Int, -1 ≤ ug S 22 5 i 3 ∧ ug S 22 5 i 3 ≤ 16383) ∧ post [(0, su S b w (S.1 1411).toNat)] S
  | _ => False
section X24
theorem d_hdl : hc_C hc_sh 168 u_hdl := by
  refine hc_met0 (nL := 4) (n0 := 120) [] ec_3 (by decide +kernel) rfl rfl ?_
  intro as S post h
  unfold u_hdl at h
  split at h
  · rename_i z i b k
    obtain ⟨rfl, hT, p1, p0⟩ := h
    refine ⟨Nat.le_of_ble_eq_true rfl, ?_⟩
    refine And.intro hT (And.intro (fun g => ?_) (fun g => And.intro hT (And.intro (fun g2 => ?_) (fun g2 => ?_))))
    · exact ⟨Or.inl rfl, p0 (fun q => g q.1)⟩
    · have g2 : k < ug S 18 5 i 4 := g2
      exact ⟨Or.inl rfl, p0 (fun q => by have := q.2; omega)⟩
    · have g2 : ¬ k < ug S 18 5 i 4 := g2
      exact ⟨Or.inr rfl, p1 ⟨g, by omega⟩⟩
  · cases h
theorem d_hos : hc_C hc_sh 165 u_hos := by
  refine hc_met0 (nL := 2) (n0 := 120) [] ec_3 (by decide +kernel) rfl rfl ?_
  intro as S post h
  unfold u_hos at h
  split at h
  · rename_i z i
    obtain ⟨rfl, hT, hU, p1, p0⟩ := h
    refine ⟨Nat.le_of_ble_eq_true rfl, ?_⟩
    refine And.intro hT (And.intro hT (And.intro hU (And.intro (fun g => ?_) (fun g => ?_))))
    · exact ⟨Or.inl rfl, p0 (fun q => q g)⟩
    · exact ⟨Or.inr rfl, p1 g⟩
  · cases h
theorem d_isa : hc_C hc_sh 167 u_isa := by
  refine hc_met0 (nL := 5) (n0 := 120) [] ec_3 (by decide +kernel) rfl rfl ?_
  intro as S post h
  unfold u_isa at h
  split at h
  · rename_i z i j
    obtain ⟨rfl, hT, p1, p0⟩ := h
    refine ⟨Nat.le_of_ble_eq_true rfl, ?_⟩
    refine And.intro hT (And.intro hT (And.intro (fun g => ?_) (fun g => And.intro (fun g2 => ?_) (fun g2 => And.intro (fun g3 => ?_) (fun g3 => ?_)))))
    · exact ⟨Or.inr rfl, p1 (Or.inl g)⟩
    · have g : ¬ ug S 18 5 i 2 < ug S 18 5 j 2 := g
      have g2 : ¬ ug S 18 5 i 2 = ug S 18 5 j 2 := g2
      exact ⟨Or.inl rfl, p0 (fun q => by unfold u_ia at q; omega)⟩
    · have g3 : j ≤ i := g3
      have g : ¬ ug S 18 5 i 2 < ug S 18 5 j 2 := g
      exact ⟨Or.inl rfl, p0 (fun q => by unfold u_ia at q; omega)⟩
    · have g3 : ¬ j ≤ i := g3
      exact ⟨Or.inr rfl, p1 (Or.inr ⟨g2, by omega⟩)⟩
  · cases h
theorem d_bot : hc_C hc_sh 161 u_bot := by
  refine hc_met0 (nL := 2) (n0 := 120) [] ec_3 (by decide +kernel) rfl rfl ?_
  intro as S post h
  unfold u_bot at h
  split at h
  · obtain ⟨rfl, hT, hU, p⟩ := h
    refine ⟨Nat.le_of_ble_eq_true rfl, ?_⟩
    exact And.intro hU (And.intro hT p)
  · cases h
def Ec_4 : hs_E := hs_ad (hs_ad (hs_ad (hs_ad Ec_3 168 u_hdl) 165 u_hos) 167 u_isa) 161 u_bot
theorem ec_4 : ∀ K, hc_C hc_sh K (Ec_4 K) := hc_ad_ok (hc_ad_ok (hc_ad_ok (hc_ad_ok ec_3 d_hdl) d_hos) d_isa) d_bot
theorem d_lat : hc_C hc_sh 169 u_lat := by
  refine hc_met (nL := 6) (n0 := 60) (n := 160) [] [6] ec_4 (by decide +kernel) rfl rfl ?_
  intro as S post h
  unfold u_lat at h
  split at h
  · rename_i z b d k9
    obtain ⟨rfl, hT, p⟩ := h
    have z3 : 0 ≤ S.1 1155 := hT.2.2.1
    have z4 : S.1 1155 ≤ 200 := hT.2.2.2
    refine ⟨Nat.le_of_ble_eq_true rfl, fun hh k g st S' => st = [] ∧ S' = S ∧ ∃ (i : Nat) (v : Int), g = [(0, (4, 1)), (1, (0, b)), (2, (0, d)), (3, (0, k9)), (4, (0, v)), (5, (0, (i : Int)))] ∧ v = lh S b d k9 i ∧ (i : Int) ≤ S.1 1155 ∧ S.1 1155 - i ≤ (k : Int), ?_, ?_⟩
    · exact Exists.intro 1000 (Exists.intro [(0, (4, 1)), (1, (0, b)), (2, (0, d)), (3, (0, k9)), (4, (0, -1)), (5, (0, ((0 : Nat) : Int)))] (And.intro (And.intro rfl (And.intro rfl (And.intro rfl (And.intro rfl (And.intro rfl (And.intro rfl trivial)))))) (And.intro rfl (And.intro rfl (Exists.intro 0 (Exists.intro (-1) (And.intro rfl (And.intro rfl (And.intro (by omega) (by omega))))))))))
    · intro hh hm
      simp only [List.mem_cons, List.not_mem_nil, or_false] at hm
      subst hm
      intro k g st S' hI
      obtain ⟨rfl, rfl, i, v, rfl, hv, hi, hk⟩ := hI
      refine And.intro (Or.inr (Or.inr (Or.inl rfl))) (And.intro (fun g1 => ?_) (fun g1 => ?_))
      · have g1 : S'.1 1155 ≤ (i : Int) := g1
        have e : (S'.1 1155).toNat = i := by omega
        rw [e, ← hv] at p
        exact p
      have g1 : ¬ S'.1 1155 ≤ (i : Int) := g1
      have bi : -2147483648 ≤ (i : Int) + 1 ∧ (i : Int) + 1 ≤ 2147483647 := by omega
      refine And.intro rfl (And.intro hT (And.intro (fun c1 => ce1 ?_) (fun c1 => ce0 ?_)))
      rotate_left
      · have ev : v = lh S' b d k9 (i + 1) := by
          rw [lh_s, ← hv]
          split
          · rename_i q
            exfalso
            exact c1 q.1
          · rfl
        exact And.intro bi (Exists.intro (k - 1) (And.intro (by omega) (Exists.intro [(0, (4, 1)), (1, (0, b)), (2, (0, d)), (3, (0, k9)), (4, (0, v)), (5, (0, ((i + 1 : Nat) : Int)))] (And.intro (And.intro rfl (And.intro rfl (And.intro rfl (And.intro rfl (And.intro rfl (And.intro rfl trivial)))))) (And.intro rfl (And.intro rfl (Exists.intro (i + 1) (Exists.intro (v) (And.intro rfl (And.intro ev (And.intro (by omega) (by omega))))))))))))
      refine And.intro hT (And.intro (fun c2 => ?_) (fun c2 => ?_))
      · have c2 : d < ug S' 18 5 i 2 := c2
        · have ev : v = lh S' b d k9 (i + 1) := by
            rw [lh_s, ← hv]
            split
            · rename_i q
              exfalso
              have := q.2.1; omega
            · rfl
          exact And.intro bi (Exists.intro (k - 1) (And.intro (by omega) (Exists.intro [(0, (4, 1)), (1, (0, b)), (2, (0, d)), (3, (0, k9)), (4, (0, v)), (5, (0, ((i + 1 : Nat) : Int)))] (And.intro (And.intro rfl (And.intro rfl (And.intro rfl (And.intro rfl (And.intro rfl (And.intro rfl trivial)))))) (And.intro rfl (And.intro rfl (Exists.intro (i + 1) (Exists.intro (v) (And.intro rfl (And.intro ev (And.intro (by omega) (by omega))))))))))))
      have c2 : ¬ d < ug S' 18 5 i 2 := c2
      refine And.intro hT (And.intro hT (And.intro (fun c3 => ?_) (fun c3 => ?_)))
      · have c3 : ug S' 18 5 i 2 < ug S' 18 5 v 2 := c3
        · have ev : v = lh S' b d k9 (i + 1) := by
            rw [lh_s, ← hv]
            split
            · rename_i q
              exfalso
              have := q.2.2; omega
            · rfl
          exact And.intro bi (Exists.intro (k - 1) (And.intro (by omega) (Exists.intro [(0, (4, 1)), (1, (0, b)), (2, (0, d)), (3, (0, k9)), (4, (0, v)), (5, (0, ((i + 1 : Nat) : Int)))] (And.intro (And.intro rfl (And.intro rfl (And.intro rfl (And.intro rfl (And.intro rfl (And.intro rfl trivial)))))) (And.intro rfl (And.intro rfl (Exists.intro (i + 1) (Exists.intro (v) (And.intro rfl (And.intro ev (And.intro (by omega) (by omega))))))))))))
      · have c3 : ¬ ug S' 18 5 i 2 < ug S' 18 5 v 2 := c3
        · have ev : (i : Int) = lh S' b d k9 (i + 1) := by
            rw [lh_s, ← hv]
            split
            · rfl
            · rename_i q
              exact (q ⟨c1, by omega, by omega⟩).elim
          exact And.intro bi (Exists.intro (k - 1) (And.intro (by omega) (Exists.intro [(0, (4, 1)), (1, (0, b)), (2, (0, d)), (3, (0, k9)), (4, (0, (i : Int))), (5, (0, ((i + 1 : Nat) : Int)))] (And.intro (And.intro rfl (And.intro rfl (And.intro rfl (And.intro rfl (And.intro rfl (And.intro rfl trivial)))))) (And.intro rfl (And.intro rfl (Exists.intro (i + 1) (Exists.intro ((i : Int)) (And.intro rfl (And.intro ev (And.intro (by omega) (by omega))))))))))))
  · cases h
theorem d_fst : hc_C hc_sh 163 u_fst := by
  refine hc_met (nL := 5) (n0 := 60) (n := 160) [] [5] ec_4 (by decide +kernel) rfl rfl ?_
  intro as S post h
  unfold u_fst at h
  split at h
  · rename_i z b k9
    obtain ⟨rfl, hT, hU, p⟩ := h
    have z3 : 0 ≤ S.1 1155 := hT.2.2.1
    have z4 : S.1 1155 ≤ 200 := hT.2.2.2
    refine ⟨Nat.le_of_ble_eq_true rfl, fun hh k g st S' => st = [] ∧ S' = S ∧ ∃ (i : Nat) (v : Int), g = [(0, (4, 1)), (1, (0, b)), (2, (0, k9)), (3, (0, v)), (4, (0, (i : Int)))] ∧ v = fb S b k9 i ∧ (i : Int) ≤ S.1 1155 ∧ S.1 1155 - i ≤ (k : Int), ?_, ?_⟩
    · exact Exists.intro 1000 (Exists.intro [(0, (4, 1)), (1, (0, b)), (2, (0, k9)), (3, (0, -1)), (4, (0, ((0 : Nat) : Int)))] (And.intro (And.intro rfl (And.intro rfl (And.intro rfl (And.intro rfl (And.intro rfl trivial))))) (And.intro rfl (And.intro rfl (Exists.intro 0 (Exists.intro (-1) (And.intro rfl (And.intro rfl (And.intro (by omega) (by omega))))))))))
    · intro hh hm
      simp only [List.mem_cons, List.not_mem_nil, or_false] at hm
      subst hm
      intro k g st S' hI
      obtain ⟨rfl, rfl, i, v, rfl, hv, hi, hk⟩ := hI
      refine And.intro (Or.inr (Or.inr (Or.inl rfl))) (And.intro (fun g1 => ?_) (fun g1 => ?_))
      · have g1 : S'.1 1155 ≤ (i : Int) := g1
        have e : (S'.1 1155).toNat = i := by omega
        rw [e, ← hv] at p
        exact p
      have g1 : ¬ S'.1 1155 ≤ (i : Int) := g1
      have bi : -2147483648 ≤ (i : Int) + 1 ∧ (i : Int) + 1 ≤ 2147483647 := by omega
      refine And.intro rfl (And.intro hT (And.intro (fun c1 => ce1 ?_) (fun c1 => ce0 ?_)))
      rotate_left
      · have ev : v = fb S' b k9 (i + 1) := by
          rw [fb_s, ← hv]
          split
          · rename_i q
            exfalso
            exact c1 q.1
          · rfl
        exact And.intro bi (Exists.intro (k - 1) (And.intro (by omega) (Exists.intro [(0, (4, 1)), (1, (0, b)), (2, (0, k9)), (3, (0, v)), (4, (0, ((i + 1 : Nat) : Int)))] (And.intro (And.intro rfl (And.intro rfl (And.intro rfl (And.intro rfl (And.intro rfl trivial))))) (And.intro rfl (And.intro rfl (Exists.intro (i + 1) (Exists.intro (v) (And.intro rfl (And.intro ev (And.intro (by omega) (by omega))))))))))))
      refine And.intro rfl (And.intro hT (And.intro hU (And.intro (fun c2 => ce1 ?_) (fun c2 => ce0 ?_))))
      rotate_left
      · have ev : v = fb S' b k9 (i + 1) := by
          rw [fb_s, ← hv]
          split
          · rename_i q
            exfalso
            exact c2 q.2.1
          · rfl
        exact And.intro bi (Exists.intro (k - 1) (And.intro (by omega) (Exists.intro [(0, (4, 1)), (1, (0, b)), (2, (0, k9)), (3, (0, v)), (4, (0, ((i + 1 : Nat) : Int)))] (And.intro (And.intro rfl (And.intro rfl (And.intro rfl (And.intro rfl (And.intro rfl trivial))))) (And.intro rfl (And.intro rfl (Exists.intro (i + 1) (Exists.intro (v) (And.intro rfl (And.intro ev (And.intro (by omega) (by omega))))))))))))
      refine And.intro (fun c3 => ?_) (fun c3 => ?_)
      · have c3 : v = -1 := c3
        · have ev : (i : Int) = fb S' b k9 (i + 1) := by
            rw [fb_s, ← hv]
            split
            · rfl
            · rename_i q
              exact (q ⟨c1, c2, Or.inl c3⟩).elim
          exact And.intro bi (Exists.intro (k - 1) (And.intro (by omega) (Exists.intro [(0, (4, 1)), (1, (0, b)), (2, (0, k9)), (3, (0, (i : Int))), (4, (0, ((i + 1 : Nat) : Int)))] (And.intro (And.intro rfl (And.intro rfl (And.intro rfl (And.intro rfl (And.intro rfl trivial))))) (And.intro rfl (And.intro rfl (Exists.intro (i + 1) (Exists.intro ((i : Int)) (And.intro rfl (And.intro ev (And.intro (by omega) (by omega))))))))))))
      have c3 : ¬ v = -1 := c3
      refine And.intro hT (And.intro hT (And.intro (fun c4 => ?_) (fun c4 => ?_)))
      · have c4 : ug S' 18 5 v 2 ≤ ug S' 18 5 i 2 := c4
        · have ev : v = fb S' b k9 (i + 1) := by
            rw [fb_s, ← hv]
            split
            · rename_i q
              exfalso
              have := q.2.2; omega
            · rfl
          exact And.intro bi (Exists.intro (k - 1) (And.intro (by omega) (Exists.intro [(0, (4, 1)), (1, (0, b)), (2, (0, k9)), (3, (0, v)), (4, (0, ((i + 1 : Nat) : Int)))] (And.intro (And.intro rfl (And.intro rfl (And.intro rfl (And.intro rfl (And.intro rfl trivial))))) (And.intro rfl (And.intro rfl (Exists.intro (i + 1) (Exists.intro (v) (And.intro rfl (And.intro ev (And.intro (by omega) (by omega))))))))))))
      · have c4 : ¬ ug S' 18 5 v 2 ≤ ug S' 18 5 i 2 := c4
        · have ev : (i : Int) = fb S' b k9 (i + 1) := by
            rw [fb_s, ← hv]
            split
            · rfl
            · rename_i q
              exact (q ⟨c1, c2, Or.inr (by omega)⟩).elim
          exact And.intro bi (Exists.intro (k - 1) (And.intro (by omega) (Exists.intro [(0, (4, 1)), (1, (0, b)), (2, (0, k9)), (3, (0, (i : Int))), (4, (0, ((i + 1 : Nat) : Int)))] (And.intro (And.intro rfl (And.intro rfl (And.intro rfl (And.intro rfl (And.intro rfl trivial))))) (And.intro rfl (And.intro rfl (Exists.intro (i + 1) (Exists.intro ((i : Int)) (And.intro rfl (And.intro ev (And.intro (by omega) (by omega))))))))))))
  · cases h
theorem d_ahd : hc_C hc_sh 164 u_ahd := by
  refine hc_met (nL := 5) (n0 := 60) (n := 160) [] [5] ec_4 (by decide +kernel) rfl rfl ?_
  intro as S post h
  unfold u_ahd at h
  split at h
  · rename_i z t k9
    obtain ⟨rfl, hT, p⟩ := h
    have z3 : 0 ≤ S.1 1155 := hT.2.2.1
    have z4 : S.1 1155 ≤ 200 := hT.2.2.2
    refine ⟨Nat.le_of_ble_eq_true rfl, fun hh k g st S' => st = [] ∧ S' = S ∧ ∃ (i : Nat) (v : Int), g = [(0, (4, 1)), (1, (0, t)), (2, (0, k9)), (3, (0, v)), (4, (0, (i : Int)))] ∧ v = ah S t k9 i ∧ (i : Int) ≤ S.1 1155 ∧ S.1 1155 - i ≤ (k : Int), ?_, ?_⟩
    · exact Exists.intro 1000 (Exists.intro [(0, (4, 1)), (1, (0, t)), (2, (0, k9)), (3, (0, -1)), (4, (0, ((0 : Nat) : Int)))] (And.intro (And.intro rfl (And.intro rfl (And.intro rfl (And.intro rfl (And.intro rfl trivial))))) (And.intro rfl (And.intro rfl (Exists.intro 0 (Exists.intro (-1) (And.intro rfl (And.intro rfl (And.intro (by omega) (by omega))))))))))
    · intro hh hm
      simp only [List.mem_cons, List.not_mem_nil, or_false] at hm
      subst hm
      intro k g st S' hI
      obtain ⟨rfl, rfl, i, v, rfl, hv, hi, hk⟩ := hI
      refine And.intro (Or.inr (Or.inr (Or.inl rfl))) (And.intro (fun g1 => ?_) (fun g1 => ?_))
      · have g1 : S'.1 1155 ≤ (i : Int) := g1
        have e : (S'.1 1155).toNat = i := by omega
        rw [e, ← hv] at p
        exact p
      have g1 : ¬ S'.1 1155 ≤ (i : Int) := g1
      have bi : -2147483648 ≤ (i : Int) + 1 ∧ (i : Int) + 1 ≤ 2147483647 := by omega
      refine And.intro hT (And.intro rfl (And.intro hT (And.intro (fun c1 => ce1 ?_) (fun c1 => ce0 ?_))))
      rotate_left
      · have ev : v = ah S' t k9 (i + 1) := by
          rw [ah_s, ← hv]
          split
          · rename_i q
            exfalso
            exact c1 q.1
          · rfl
        exact And.intro bi (Exists.intro (k - 1) (And.intro (by omega) (Exists.intro [(0, (4, 1)), (1, (0, t)), (2, (0, k9)), (3, (0, v)), (4, (0, ((i + 1 : Nat) : Int)))] (And.intro (And.intro rfl (And.intro rfl (And.intro rfl (And.intro rfl (And.intro rfl trivial))))) (And.intro rfl (And.intro rfl (Exists.intro (i + 1) (Exists.intro (v) (And.intro rfl (And.intro ev (And.intro (by omega) (by omega))))))))))))
      refine And.intro rfl (And.intro hT (And.intro (fun c2 => ce1 ?_) (fun c2 => ce0 ?_)))
      rotate_left
      · have ev : v = ah S' t k9 (i + 1) := by
          rw [ah_s, ← hv]
          split
          · rename_i q
            exfalso
            exact c2 q.2.1
          · rfl
        exact And.intro bi (Exists.intro (k - 1) (And.intro (by omega) (Exists.intro [(0, (4, 1)), (1, (0, t)), (2, (0, k9)), (3, (0, v)), (4, (0, ((i + 1 : Nat) : Int)))] (And.intro (And.intro rfl (And.intro rfl (And.intro rfl (And.intro rfl (And.intro rfl trivial))))) (And.intro rfl (And.intro rfl (Exists.intro (i + 1) (Exists.intro (v) (And.intro rfl (And.intro ev (And.intro (by omega) (by omega))))))))))))
      refine And.intro (fun c3 => ?_) (fun c3 => ?_)
      · have c3 : v = -1 := c3
        · have ev : (i : Int) = ah S' t k9 (i + 1) := by
            rw [ah_s, ← hv]
            split
            · rfl
            · rename_i q
              exact (q ⟨c1, c2, Or.inl c3⟩).elim
          exact And.intro bi (Exists.intro (k - 1) (And.intro (by omega) (Exists.intro [(0, (4, 1)), (1, (0, t)), (2, (0, k9)), (3, (0, (i : Int))), (4, (0, ((i + 1 : Nat) : Int)))] (And.intro (And.intro rfl (And.intro rfl (And.intro rfl (And.intro rfl (And.intro rfl trivial))))) (And.intro rfl (And.intro rfl (Exists.intro (i + 1) (Exists.intro ((i : Int)) (And.intro rfl (And.intro ev (And.intro (by omega) (by omega))))))))))))
      have c3 : ¬ v = -1 := c3
      refine And.intro rfl (And.intro hT (And.intro (fun c4 => ce1 ?_) (fun c4 => ce0 ?_)))
      rotate_left
      · have ev : v = ah S' t k9 (i + 1) := by
          rw [ah_s, ← hv]
          split
          · rename_i q
            exfalso
            rcases q.2.2 with q | q <;> first | exact c3 q | exact c4 q
          · rfl
        exact And.intro bi (Exists.intro (k - 1) (And.intro (by omega) (Exists.intro [(0, (4, 1)), (1, (0, t)), (2, (0, k9)), (3, (0, v)), (4, (0, ((i + 1 : Nat) : Int)))] (And.intro (And.intro rfl (And.intro rfl (And.intro rfl (And.intro rfl (And.intro rfl trivial))))) (And.intro rfl (And.intro rfl (Exists.intro (i + 1) (Exists.intro (v) (And.intro rfl (And.intro ev (And.intro (by omega) (by omega))))))))))))
      · have ev : (i : Int) = ah S' t k9 (i + 1) := by
          rw [ah_s, ← hv]
          split
          · rfl
          · rename_i q
            exact (q ⟨c1, c2, Or.inr c4⟩).elim
        exact And.intro bi (Exists.intro (k - 1) (And.intro (by omega) (Exists.intro [(0, (4, 1)), (1, (0, t)), (2, (0, k9)), (3, (0, (i : Int))), (4, (0, ((i + 1 : Nat) : Int)))] (And.intro (And.intro rfl (And.intro rfl (And.intro rfl (And.intro rfl (And.intro rfl trivial))))) (And.intro rfl (And.intro rfl (Exists.intro (i + 1) (Exists.intro ((i : Int)) (And.intro rfl (And.intro ev (And.intro (by omega) (by omega))))))))))))
  · cases h
theorem d_tof : hc_C hc_sh 175 u_tof := by
  refine hc_met (nL := 4) (n0 := 60) (n := 160) [] [4] ec_4 (by decide +kernel) rfl rfl ?_
  intro as S post h
  unfold u_tof at h
  split at h
  · rename_i z b
    obtain ⟨rfl, hT, hU, p⟩ := h
    have z3 : 0 ≤ S.1 1411 := hT.2.2.1
    have z4 : S.1 1411 ≤ 200 := hT.2.2.2
    refine ⟨Nat.le_of_ble_eq_true rfl, fun hh k g st S' => st = [] ∧ S' = S ∧ ∃ (i : Nat) (v : Int), g = [(0, (4, 1)), (1, (0, b)), (2, (0, v)), (3, (0, (i : Int)))] ∧ v = tf S b i ∧ (i : Int) ≤ S.1 1411 ∧ S.1 1411 - i ≤ (k : Int), ?_, ?_⟩
    · exact Exists.intro 1000 (Exists.intro [(0, (4, 1)), (1, (0, b)), (2, (0, 0)), (3, (0, ((0 : Nat) : Int)))] (And.intro (And.intro rfl (And.intro rfl (And.intro rfl (And.intro rfl trivial)))) (And.intro rfl (And.intro rfl (Exists.intro 0 (Exists.intro (0) (And.intro rfl (And.intro rfl (And.intro (by omega) (by omega))))))))))
    · intro hh hm
      simp only [List.mem_cons, List.not_mem_nil, or_false] at hm
      subst hm
      intro k g st S' hI
      obtain ⟨rfl, rfl, i, v, rfl, hv, hi, hk⟩ := hI
      refine And.intro (Or.inr (Or.inr (Or.inr rfl))) (And.intro (fun g1 => ?_) (fun g1 => ?_))
      · have g1 : S'.1 1411 ≤ (i : Int) := g1
        have e : (S'.1 1411).toNat = i := by omega
        rw [e, ← hv] at p
        exact p
      have g1 : ¬ S'.1 1411 ≤ (i : Int) := g1
      have bi : -2147483648 ≤ (i : Int) + 1 ∧ (i : Int) + 1 ≤ 2147483647 := by omega
      have tb := tf_b (S := S') (b := b) i
      rw [← hv] at tb
      refine And.intro rfl (And.intro hU (And.intro hT (And.intro (fun c1 => ?_) (fun c1 => ?_))))
      · have ev : v = tf S' b (i + 1) := by
          rw [tf_s, ← hv]
          split
          · rename_i q
            exfalso
            exact c1 q
          · rfl
        exact And.intro bi (Exists.intro (k - 1) (And.intro (by omega) (Exists.intro [(0, (4, 1)), (1, (0, b)), (2, (0, v)), (3, (0, ((i + 1 : Nat) : Int)))] (And.intro (And.intro rfl (And.intro rfl (And.intro rfl (And.intro rfl trivial)))) (And.intro rfl (And.intro rfl (Exists.intro (i + 1) (Exists.intro (v) (And.intro rfl (And.intro ev (And.intro (by omega) (by omega))))))))))))
      · have ev : v + 1 = tf S' b (i + 1) := by
          rw [tf_s, ← hv]
          split
          · rfl
          · rename_i q
            exact absurd c1 q
        refine And.intro ?_ (And.intro bi (Exists.intro (k - 1) (And.intro (by omega) (Exists.intro [(0, (4, 1)), (1, (0, b)), (2, (0, v + 1)), (3, (0, ((i + 1 : Nat) : Int)))] (And.intro (And.intro rfl (And.intro rfl (And.intro rfl (And.intro rfl trivial)))) (And.intro rfl (And.intro rfl (Exists.intro (i + 1) (Exists.intro (v + 1) (And.intro rfl (And.intro ev (And.intro (by omega) (by omega)))))))))))))
        show -2147483648 ≤ v + 1 ∧ v + 1 ≤ 2147483647
        omega
  · cases h
theorem d_sof : hc_C hc_sh 172 u_sof := by
  refine hc_met (nL := 6) (n0 := 60) (n := 160) [] [8] ec_4 (by decide +kernel) rfl rfl ?_
  intro as S post h
  unfold u_sof at h
  split at h
  · rename_i z b w
    obtain ⟨rfl, hT, hU, hn, p⟩ := h
    have z3 : 0 ≤ S.1 1411 := hT.2.2.1
    have z4 : S.1 1411 ≤ 200 := hT.2.2.2
    refine ⟨Nat.le_of_ble_eq_true rfl, fun hh k g st S' => st = [] ∧ S' = S ∧ ∃ (i : Nat) (v a : Int), g = [(0, (4, 1)), (1, (0, b)), (2, (0, w)), (3, (0, v)), (4, (0, a)), (5, (0, (i : Int)))] ∧ v = su S b w i ∧ a = tf S b i ∧ (i : Int) ≤ S.1 1411 ∧ S.1 1411 - i ≤ (k : Int), ?_, ?_⟩
    · exact Exists.intro 1000 (Exists.intro [(0, (4, 1)), (1, (0, b)), (2, (0, w)), (3, (0, 0)), (4, (0, 0)), (5, (0, ((0 : Nat) : Int)))] (And.intro (And.intro rfl (And.intro rfl (And.intro rfl (And.intro rfl (And.intro rfl (And.intro rfl trivial)))))) (And.intro rfl (And.intro rfl (Exists.intro 0 (Exists.intro 0 (Exists.intro 0 (And.intro rfl (And.intro rfl (And.intro rfl (And.intro (by omega) (by omega))))))))))))
    · intro hh hm
      simp only [List.mem_cons, List.not_mem_nil, or_false] at hm
      subst hm
      intro k g st S' hI
      obtain ⟨rfl, rfl, i, v, a, rfl, hv, ha, hi, hk⟩ := hI
      refine And.intro (Or.inr (Or.inr (Or.inr rfl))) (And.intro (fun g1 => ?_) (fun g1 => ?_))
      · have g1 : S'.1 1411 ≤ (i : Int) := g1
        have e : (S'.1 1411).toNat = i := by omega
        rw [e, ← hv] at p
        exact p
      have g1 : ¬ S'.1 1411 ≤ (i : Int) := g1
      have bi : -2147483648 ≤ (i : Int) + 1 ∧ (i : Int) + 1 ≤ 2147483647 := by omega
      have tb := tf_b (S := S') (b := b) i
      have sb := su_b (b := b) (w := w) hn i (by omega)
      have ni := hn i
      rw [← ha] at tb
      rw [← hv] at sb
      refine And.intro rfl (And.intro hU (And.intro hT (And.intro (fun c1 => ?_) (fun c1 => ?_))))
      · have ev : v = su S' b w (i + 1) := by
          rw [su_s, ← hv]
          split
          · rename_i q
            exact absurd q c1
          · rfl
        have ea : a = tf S' b (i + 1) := by
          rw [tf_s, ← ha]
          split
          · rename_i q
            exact absurd q c1
          · rfl
        exact And.intro bi (Exists.intro (k - 1) (And.intro (by omega) (Exists.intro [(0, (4, 1)), (1, (0, b)), (2, (0, w)), (3, (0, v)), (4, (0, a)), (5, (0, ((i + 1 : Nat) : Int)))] (And.intro (And.intro rfl (And.intro rfl (And.intro rfl (And.intro rfl (And.intro rfl (And.intro rfl trivial)))))) (And.intro rfl (And.intro rfl (Exists.intro (i + 1) (Exists.intro (v) (Exists.intro (a) (And.intro rfl (And.intro ev (And.intro ea (And.intro (by omega) (by omega))))))))))))))
      · have ea : a + 1 = tf S' b (i + 1) := by
          rw [tf_s, ← ha]
          split
          · rfl
          · rename_i q
            exact absurd c1 q
        refine And.intro ?_ (And.intro hT (And.intro (fun c2 => ?_) (fun c2 => ?_)))
        · show -2147483648 ≤ a + 1 ∧ a + 1 ≤ 2147483647
          omega
        · have c2 : w = 0 := c2
          have ev : v + ug S' 22 5 i 3 * 1 = su S' b w (i + 1) := by
            rw [su_s, ← hv, if_pos c2]
            split
            · rfl
            · rename_i q
              exact absurd c1 q
          refine And.intro ?_ (And.intro ?_ (And.intro bi (Exists.intro (k - 1) (And.intro (by omega) (Exists.intro [(0, (4, 1)), (1, (0, b)), (2, (0, w)), (3, (0, v + ug S' 22 5 i 3 * 1)), (4, (0, a + 1)), (5, (0, ((i + 1 : Nat) : Int)))] (And.intro (And.intro rfl (And.intro rfl (And.intro rfl (And.intro rfl (And.intro rfl (And.intro rfl trivial)))))) (And.intro rfl (And.intro rfl (Exists.intro (i + 1) (Exists.intro (v + ug S' 22 5 i 3 * 1) (Exists.intro (a + 1) (And.intro rfl (And.intro ev (And.intro ea (And.intro (by omega) (by omega))))))))))))))))
          · show -2147483648 ≤ ug S' 22 5 i 3 * 1 ∧ ug S' 22 5 i 3 * 1 ≤ 2147483647
            omega
          · show -2147483648 ≤ v + ug S' 22 5 i 3 * 1 ∧ v + ug S' 22 5 i 3 * 1 ≤ 2147483647
            omega
        · have c2 : ¬ w = 0 := c2
          have mb := su_m ni (y := a + 1) (by omega)
          have ev : v + ug S' 22 5 i 3 * (a + 1) = su S' b w (i + 1) := by
            rw [su_s, ← hv, if_neg c2, ← ha]
            split
            · rfl
            · rename_i q
              exact absurd c1 q
          refine And.intro ?_ (And.intro ?_ (And.intro bi (Exists.intro (k - 1) (And.intro (by omega) (Exists.intro [(0, (4, 1)), (1, (0, b)), (2, (0, w)), (3, (0, v + ug S' 22 5 i 3 * (a + 1))), (4, (0, a + 1)), (5, (0, ((i + 1 : Nat) : Int)))] (And.intro (And.intro rfl (And.intro rfl (And.intro rfl (And.intro rfl (And.intro rfl (And.intro rfl trivial)))))) (And.intro rfl (And.intro rfl (Exists.intro (i + 1) (Exists.intro (v + ug S' 22 5 i 3 * (a + 1)) (Exists.intro (a + 1) (And.intro rfl (And.intro ev (And.intro ea (And.intro (by omega) (by omega))))))))))))))))
          · show -2147483648 ≤ ug S' 22 5 i 3 * (a + 1) ∧ ug S' 22 5 i 3 * (a + 1) ≤ 2147483647
            omega
          · show -2147483648 ≤ v + ug S' 22 5 i 3 * (a + 1) ∧ v + ug S' 22 5 i 3 * (a + 1) ≤ 2147483647
            omega
  · cases h
def Ec_5 : hs_E := hs_ad (hs_ad (hs_ad (hs_ad (hs_ad Ec_4 169 u_lat) 163 u_fst) 164 u_ahd) 175 u_tof) 172 u_sof
theorem ec_5 : ∀ K, hc_C hc_sh K (Ec_5 K) := hc_ad_ok (hc_ad_ok (hc_ad_ok (hc_ad_ok (hc_ad_ok ec_4 d_lat) d_fst) d_ahd) d_tof) d_sof
end X24

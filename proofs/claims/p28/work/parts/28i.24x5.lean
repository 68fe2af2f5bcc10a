/-! ===== the class's public readers, and seal, by hand (by wip/gen/mkhc4.py) ===== -/
theorem s15 {A : Nat → Nat → Int} {i : Nat} {v : Int} (c : Nat) (h : ¬ c = 15) : hs_ua A 15 i v c = A c := hs_ua_ne h
theorem ug_same {S T : hs_S} {k : Nat} {w i j : Int} (h1 : T.1 = S.1) (h2 : T.2 (k + 1) = S.2 (k + 1)) : ug T k w i j = ug S k w i j := by
  unfold ug
  rw [h1, h2]
theorem u_bt_same {S T : hs_S} (h1 : T.1 = S.1) (h2 : T.2 17 = S.2 17) (h3 : T.2 23 = S.2 23) (i : Int) : u_bt T i = u_bt S i := by
  unfold u_bt
  rw [ug_same (k := 22) h1 h3, ug_same (k := 16) h1 h2]
theorem tf_same {S T : hs_S} (h1 : T.1 = S.1) (h2 : T.2 17 = S.2 17) (h3 : T.2 23 = S.2 23) (b : Int) : ∀ i : Nat, tf T b i = tf S b i
  | 0 => rfl
  | i + 1 => by rw [tf_s, tf_s, tf_same h1 h2 h3 b i, u_bt_same h1 h2 h3]
theorem su_same {S T : hs_S} (h1 : T.1 = S.1) (h2 : T.2 17 = S.2 17) (h3 : T.2 23 = S.2 23) (b w : Int) : ∀ i : Nat, su T b w i = su S b w i
  | 0 => rfl
  | i + 1 => by rw [su_s, su_s, su_same h1 h2 h3 b w i, u_bt_same h1 h2 h3, tf_same h1 h2 h3, ug_same (k := 22) h1 h3]
def u_okd (S : hs_S) (b d k : Int) : Prop := (0 ≤ d ∧ d < 400) ∧ (0 ≤ k ∧ k < 400) ∧ 0 ≤ b ∧ b < S.1 1027
def u_held : hs_T := fun as S post => match as with
  | [(4, z), (0, b), (0, d), (0, k)] => z = 0 ∧ u_Tb S 18 5 200 ∧ (¬ u_okd S b d k → post [(0, -1)] S) ∧ (u_okd S b d k → post [(0, ug S 18 5 (lh S b d k (S.1 1155).toNat) 1)] S)
  | _ => False
def u_okb (S : hs_S) (b k w : Int) : Prop := (0 ≤ k ∧ k < 400) ∧ (0 ≤ w ∧ w < 3) ∧ 0 ≤ b ∧ b < S.1 1027
def u_broken : hs_T := fun as S post => match as with
  | [(4, z), (0, b), (0, k), (0, w)] => z = 0 ∧ u_Tb S 18 5 200 ∧ u_Tb S 16 2 40 ∧ (¬ u_okb S b k w → post [(0, -1)] S) ∧ (u_okb S b k w → w = 1 → post [(0, ug S 18 5 (ah S (fb S b k (S.1 1155).toNat) k (S.1 1155).toNat) 1)] S) ∧ (u_okb S b k w → w = 0 → post [(0, ug S 18 5 (fb S b k (S.1 1155).toNat) 1)] S) ∧ (u_okb S b k w → ¬ w = 1 → ¬ w = 0 → post [(0, ug S 18 5 (fb S b k (S.1 1155).toNat) 2)] S)
  | _ => False
def u_seal : hs_T := fun as S post => match as with
  | [(4, z), (0, b)] => z = 0 ∧ u_Tb S 14 4 20 ∧ u_Tb S 22 5 200 ∧ u_Tb S 16 2 40 ∧ (∀ i : Int, -1 ≤ ug S 22 5 i 3 ∧ ug S 22 5 i 3 ≤ 16383) ∧ (¬ (0 ≤ b ∧ b < S.1 899) → post [(0, -2)] (hc_no S (-2))) ∧ ((0 ≤ b ∧ b < S.1 899) → ∀ r v1 v2 v3, r = v1 → v1 = tf S b (S.1 1411).toNat → v2 = su S b 0 (S.1 1411).toNat → v3 = su S b 1 (S.1 1411).toNat → post [(0, r)] (hc_yes S.1 (hs_ua (hs_ua (hs_ua S.2 15 (b * 4 + 1).toNat v1) 15 (b * 4 + 2).toNat v2) 15 (b * 4 + 3).toNat v3)))
  | _ => False
section Y24
theorem d_held : hc_C hc_sh 323 u_held := by
  refine hc_met0 (nL := 4) (n0 := 120) [] ec_5 (by decide +kernel) rfl rfl ?_
  intro as S post h
  unfold u_held at h
  split at h
  · rename_i z b d k
    obtain ⟨rfl, hT, q1, q2⟩ := h
    refine ⟨Nat.le_of_ble_eq_true rfl, ?_⟩
    refine And.intro (fun a0 b0 => ce1 ?_) (fun a0 => ce0 ?_)
    rotate_left
    · exact q1 (fun q => a0 q.1)
    refine And.intro (fun a1 b1 => ce1 ?_) (fun a1 => ce0 ?_)
    rotate_left
    · exact q1 (fun q => a1 q.2.1)
    refine And.intro (Or.inr (Or.inl rfl)) (And.intro (fun a2 b2 => cn1 ?_) (fun a2 => cn0 ?_))
    rotate_left
    · exact q1 (fun q => a2 q.2.2)
    exact And.intro rfl (And.intro hT (And.intro hT (q2 ⟨⟨a0, b0⟩, ⟨a1, b1⟩, a2, b2⟩)))
  · cases h
theorem d_broken : hc_C hc_sh 310 u_broken := by
  refine hc_met0 (nL := 5) (n0 := 120) [] ec_5 (by decide +kernel) rfl rfl ?_
  intro as S post h
  unfold u_broken at h
  split at h
  · rename_i z b k w
    obtain ⟨rfl, hT, hU, q1, q2, q3, q4⟩ := h
    refine ⟨Nat.le_of_ble_eq_true rfl, ?_⟩
    refine And.intro (fun a0 b0 => ce1 ?_) (fun a0 => ce0 ?_)
    rotate_left
    · exact q1 (fun q => a0 q.1)
    refine And.intro (fun a1 b1 => ce1 ?_) (fun a1 => ce0 ?_)
    rotate_left
    · exact q1 (fun q => a1 q.2.1)
    refine And.intro (Or.inr (Or.inl rfl)) (And.intro (fun a2 b2 => cn1 ?_) (fun a2 => cn0 ?_))
    rotate_left
    · exact q1 (fun q => a2 q.2.2)
    have hok : u_okb S b k w := ⟨⟨a0, b0⟩, ⟨a1, b1⟩, a2, b2⟩
    refine And.intro rfl (And.intro hT (And.intro hU (And.intro (fun g => ?_) (fun g => ?_))))
    · have g : ¬ w = 1 := g
      refine And.intro (fun g2 => ?_) (fun g2 => ?_)
      · exact And.intro hT (q4 hok g g2)
      · exact And.intro hT (q3 hok g2)
    · exact And.intro rfl (And.intro hT (And.intro hT (q2 hok g)))
  · cases h
theorem d_seal : hc_C hc_sh 348 u_seal := by
  refine hc_met0 (nL := 2) (n0 := 120) [] ec_5 (by decide +kernel) rfl rfl ?_
  intro as S post h
  unfold u_seal at h
  split at h
  · rename_i z b
    obtain ⟨rfl, hB, hT, hU, hn, q1, q2⟩ := h
    refine ⟨Nat.le_of_ble_eq_true rfl, ?_⟩
    refine And.intro (Or.inl rfl) (And.intro (fun b1 b2 => cn1 ?_) (fun b1 => cn0 ?_))
    rotate_left
    · exact ⟨rfl, q1 b1⟩
    have b2 : b < S.1 899 := b2
    have n1 : ∀ i : Int, -1 ≤ ug (S.1, hs_ua S.2 15 (b * 4 + 1).toNat (tf S b (S.1 1411).toNat)) 22 5 i 3 ∧ ug (S.1, hs_ua S.2 15 (b * 4 + 1).toNat (tf S b (S.1 1411).toNat)) 22 5 i 3 ≤ 16383 := fun i => by
      have g1 : ((S.1, hs_ua S.2 15 (b * 4 + 1).toNat (tf S b (S.1 1411).toNat)) : hs_S).2 23 = S.2 23 := rfl
      rw [ug_same (S := S) (T := (S.1, hs_ua S.2 15 (b * 4 + 1).toNat (tf S b (S.1 1411).toNat))) (k := 22) rfl g1]
      exact hn i
    have n2 : ∀ i : Int, -1 ≤ ug (S.1, hs_ua (hs_ua S.2 15 (b * 4 + 1).toNat (tf S b (S.1 1411).toNat)) 15 (b * 4 + 2).toNat (su (S.1, hs_ua S.2 15 (b * 4 + 1).toNat (tf S b (S.1 1411).toNat)) b 0 (S.1 1411).toNat)) 22 5 i 3 ∧ ug (S.1, hs_ua (hs_ua S.2 15 (b * 4 + 1).toNat (tf S b (S.1 1411).toNat)) 15 (b * 4 + 2).toNat (su (S.1, hs_ua S.2 15 (b * 4 + 1).toNat (tf S b (S.1 1411).toNat)) b 0 (S.1 1411).toNat)) 22 5 i 3 ≤ 16383 := fun i => by
      have g1 : ((S.1, hs_ua (hs_ua S.2 15 (b * 4 + 1).toNat (tf S b (S.1 1411).toNat)) 15 (b * 4 + 2).toNat (su (S.1, hs_ua S.2 15 (b * 4 + 1).toNat (tf S b (S.1 1411).toNat)) b 0 (S.1 1411).toNat)) : hs_S).2 23 = ((S.1, hs_ua S.2 15 (b * 4 + 1).toNat (tf S b (S.1 1411).toNat)) : hs_S).2 23 := rfl
      rw [ug_same (S := (S.1, hs_ua S.2 15 (b * 4 + 1).toNat (tf S b (S.1 1411).toNat))) (T := (S.1, hs_ua (hs_ua S.2 15 (b * 4 + 1).toNat (tf S b (S.1 1411).toNat)) 15 (b * 4 + 2).toNat (su (S.1, hs_ua S.2 15 (b * 4 + 1).toNat (tf S b (S.1 1411).toNat)) b 0 (S.1 1411).toNat))) (k := 22) rfl g1]
      exact n1 i
    have e1 : su (S.1, hs_ua S.2 15 (b * 4 + 1).toNat (tf S b (S.1 1411).toNat)) b 0 (S.1 1411).toNat = su S b 0 (S.1 1411).toNat := su_same (S := S) (T := (S.1, hs_ua S.2 15 (b * 4 + 1).toNat (tf S b (S.1 1411).toNat))) rfl rfl rfl b 0 _
    have e2 : su (S.1, hs_ua (hs_ua S.2 15 (b * 4 + 1).toNat (tf S b (S.1 1411).toNat)) 15 (b * 4 + 2).toNat (su (S.1, hs_ua S.2 15 (b * 4 + 1).toNat (tf S b (S.1 1411).toNat)) b 0 (S.1 1411).toNat)) b 1 (S.1 1411).toNat = su S b 1 (S.1 1411).toNat := (su_same (S := (S.1, hs_ua S.2 15 (b * 4 + 1).toNat (tf S b (S.1 1411).toNat))) (T := (S.1, hs_ua (hs_ua S.2 15 (b * 4 + 1).toNat (tf S b (S.1 1411).toNat)) 15 (b * 4 + 2).toNat (su (S.1, hs_ua S.2 15 (b * 4 + 1).toNat (tf S b (S.1 1411).toNat)) b 0 (S.1 1411).toNat))) rfl rfl rfl b 1 _).trans (su_same (S := S) (T := (S.1, hs_ua S.2 15 (b * 4 + 1).toNat (tf S b (S.1 1411).toNat))) rfl rfl rfl b 1 _)
    have er : ug (S.1, hs_ua (hs_ua (hs_ua S.2 15 (b * 4 + 1).toNat (tf S b (S.1 1411).toNat)) 15 (b * 4 + 2).toNat (su (S.1, hs_ua S.2 15 (b * 4 + 1).toNat (tf S b (S.1 1411).toNat)) b 0 (S.1 1411).toNat)) 15 (b * 4 + 3).toNat (su (S.1, hs_ua (hs_ua S.2 15 (b * 4 + 1).toNat (tf S b (S.1 1411).toNat)) 15 (b * 4 + 2).toNat (su (S.1, hs_ua S.2 15 (b * 4 + 1).toNat (tf S b (S.1 1411).toNat)) b 0 (S.1 1411).toNat)) b 1 (S.1 1411).toNat)) 14 4 b 1 = tf S b (S.1 1411).toNat := by
      unfold ug
      rw [if_pos ⟨b1, b2, by decide, by decide⟩]
      show hs_ua _ 15 _ _ 15 (b * 4 + 1).toNat = _
      rw [hs_ua_k, if_neg (by omega), hs_ua_k, if_neg (by omega), hs_ua_k, if_pos rfl]
    refine And.intro rfl (And.intro hT (And.intro hU (And.intro hB (And.intro ⟨b1, b2, by decide, by decide⟩ ?_))))
    refine And.intro rfl (And.intro hT (And.intro hU (And.intro n1 (And.intro hB (And.intro ⟨b1, b2, by decide, by decide⟩ ?_)))))
    refine And.intro rfl (And.intro hT (And.intro hU (And.intro n2 (And.intro hB (And.intro ⟨b1, b2, by decide, by decide⟩ ?_)))))
    refine And.intro hB ?_
    exact ⟨rfl, q2 ⟨b1, b2⟩ (ug (S.1, hs_ua (hs_ua (hs_ua S.2 15 (b * 4 + 1).toNat (tf S b (S.1 1411).toNat)) 15 (b * 4 + 2).toNat (su (S.1, hs_ua S.2 15 (b * 4 + 1).toNat (tf S b (S.1 1411).toNat)) b 0 (S.1 1411).toNat)) 15 (b * 4 + 3).toNat (su (S.1, hs_ua (hs_ua S.2 15 (b * 4 + 1).toNat (tf S b (S.1 1411).toNat)) 15 (b * 4 + 2).toNat (su (S.1, hs_ua S.2 15 (b * 4 + 1).toNat (tf S b (S.1 1411).toNat)) b 0 (S.1 1411).toNat)) b 1 (S.1 1411).toNat)) 14 4 b 1) (tf S b (S.1 1411).toNat) (su (S.1, hs_ua S.2 15 (b * 4 + 1).toNat (tf S b (S.1 1411).toNat)) b 0 (S.1 1411).toNat) (su (S.1, hs_ua (hs_ua S.2 15 (b * 4 + 1).toNat (tf S b (S.1 1411).toNat)) 15 (b * 4 + 2).toNat (su (S.1, hs_ua S.2 15 (b * 4 + 1).toNat (tf S b (S.1 1411).toNat)) b 0 (S.1 1411).toNat)) b 1 (S.1 1411).toNat) er rfl e1 e2⟩
  · cases h
end Y24

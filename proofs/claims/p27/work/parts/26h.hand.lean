/-! ===== the reference with counts: methods that are proved by hand are contracts of the walk ===== -/
def ny_ov : List (Nat × ai_V) := [(0, (2, 30, 0, 1)), (3, (2, 31, 0, 1)), (4, (2, 32, 0, 1)), (5, (2, 33, 0, 1)), (6, (2, 34, 0, 1)), (7, (2, 35, 0, 1))]
def ny_ow : List (Nat × ai_V) := [(0, (2, 36, 0, 1)), (1, (2, 37, 0, 1)), (2, (2, 38, 0, 1)), (3, (2, 39, 0, 1)), (4, (2, 40, 0, 1)), (5, (2, 41, 0, 1)), (6, (2, 42, 0, 1))]
def ny_16 : ai_C := .inr (0, 7, (0, 0, 0, 15), ny_ow)
def ny_1 : ai_C := .inr (0, 23016, (10, 1, 0, 0), ny_ov)
abbrev ny_D (ρ : ai_Rh) (G : ai_G) (S : hs_S) : Prop := ∀ k x, ny_W0[k]? = some x → bh_dk G x = true → bh_d ρ S k x
theorem ni_1 {ρ : ai_Rh} {G : ai_G} {S : hs_S} (hd : bh_dk G ny_1 = true) (D0 : ny_D ρ G S) : ro (S.2 1) ∧ bh_ov ρ S 1 (10, 1, 0, 0) ny_ov := by
  obtain ⟨h0, h⟩ := D0 1 ny_1 rfl hd
  rcases h with ⟨h, -⟩ | ⟨-, -, -, h⟩
  · cases h
  · exact ⟨h, h0⟩
theorem ni_ov {ρ : ai_Rh} {S S1 : hs_S} {d : ai_V} (h : bh_ov ρ S 1 d ny_ov) (he : ∀ j, j < 10 → ¬ j = 1 → ¬ j = 2 → S1.2 1 j = S.2 1 j) : bh_ov ρ S1 1 d ny_ov := by
  intro q hq
  obtain ⟨h1, t, h2, h3⟩ := h q hq
  refine ⟨h1, t, h2, ?_⟩
  have hj : q.1 < 10 ∧ ¬ q.1 = 1 ∧ ¬ q.1 = 2 := (by decide : ∀ q ∈ ny_ov, q.1 < 10 ∧ ¬ q.1 = 1 ∧ ¬ q.1 = 2) q hq
  rw [h3, he q.1 hj.1 hj.2.1 hj.2.2]
abbrev ni_I (S : hs_S) : Prop := ∀ k c, 0 < k → hs_sh[k]? = some c → (c.1 = 0 ∨ c.1 = 2) → ∀ j, j < c.2 → i32 (S.2 k j)
theorem ni_wz {ρ : ai_Rh} {G : ai_G} {S : hs_S} (hd : bh_dk G ny_16 = true) (D0 : ny_D ρ G S) (I0 : ni_I S) : wz S.2 := by
  have h := D0 16 ny_16 rfl hd
  obtain ⟨-, h⟩ := h
  rcases h with ⟨-, h⟩ | ⟨h, -⟩
  · intro x h0 h7
    exact h x.toNat (by omega) (I0 16 (0, 7) (by decide) rfl (Or.inl rfl) x.toNat (by dsimp only; omega))
  · cases h
theorem ni_bz {ρ : ai_Rh} {G : ai_G} {S : hs_S} (D0 : ny_D ρ G S) (I0 : ni_I S) (k n : Nat) (hk : 0 < k) (h1 : ny_W0[k]? = some (.inr (2, n, (0, 0, 0, 1), []))) (h2 : hs_sh[k]? = some (2, n)) : bz S.2 k n := by
  have h := D0 k _ h1 rfl
  obtain ⟨-, -, h⟩ := h
  intro i hi
  have g := h i hi (I0 k (2, n) hk h2 (Or.inr rfl) i hi)
  dsimp only at g
  omega
theorem ni_fd {ρ : ai_Rh} {G : ai_G} {S : hs_S} {j t : Nat} {q : Int × Int × Nat} (hG : ai_gok ρ G) (F0 : ∀ j w, (bg_fs ny_W0)[j]? = some w → bg_ft w = true → bg_fd ρ S j w) (h1 : (bg_fs ny_W0)[j]? = some (2, t, 0, 1)) (h2 : G[t]? = some q) : q.1 ≤ S.1 j ∧ S.1 j ≤ q.2.1 := by
  obtain ⟨-, h⟩ := F0 j _ h1 rfl
  obtain ⟨z, e, g1, g2, -⟩ := hG.at h2
  rw [h] at e
  cases e
  exact ⟨g1, g2⟩
theorem ni_no {α : Prop} {j : Nat} (h : ([] : List Nat).contains j = true) : α := by
  simp at h
theorem nl_0 {sb : ai_SB} : ∀ j, j < 0 → ct_ok ny_ctf ny_ctk sb j := fun j hj => absurd hj (by omega)
/-- whereOf -/
theorem nh_0 {sb : ai_SB} : ct_ok ny_ctf ny_ctk sb 0 := by
  have key : ai_cs (ai_T 152) 0 sb (ny_q0 ++ [(0, 199, 0), ((-2147483648), 2147483647, 0), ((-2147483648), 2147483647, 0)]) [(4, 0, 0, 0), (2, 43, 0, 1), (2, 44, 0, 1), (2, 45, 0, 1)] ny_W0 [bg_o (1, 0, 15) (ny_q0 ++ [(0, 199, 0), ((-2147483648), 2147483647, 0), ((-2147483648), 2147483647, 0)]) ny_e0] := by
    refine bh_hand [] [] [] [] (1, 0, 15) c_whereOf (by decide +kernel) (by decide +kernel) (by decide +kernel) (by decide +kernel) (by decide +kernel) (by decide +kernel) (fun ρ ad vs hG has => ?_)
    obtain ⟨u0, us0, rfl, ⟨a0, ha0, rfl⟩, has1⟩ := has.cons
    obtain ⟨u1, us1, rfl, ⟨x1, z1, rfl, hz1, hx1⟩, has2⟩ := has1.cons
    obtain ⟨u2, us2, rfl, ⟨x2, z2, rfl, hz2, hx2⟩, has3⟩ := has2.cons
    obtain ⟨u3, us3, rfl, ⟨x3, z3, rfl, hz3, hx3⟩, has4⟩ := has3.cons
    rw [has4.nil]
    refine ⟨(4, 0) :: [(0, x1.toInt), (0, x2.toInt), (0, x3.toInt)], ⟨⟨a0, ha0, rfl⟩, ⟨x1, rfl, rfl⟩, ⟨x2, rfl, rfl⟩, ⟨x3, rfl, rfl⟩, trivial⟩, fun S F0 D0 B0 I0 => ?_⟩
    · obtain ⟨z1, e1, b1, b2, -⟩ := hG.at (t := 43) (q := (0, 199, 0)) rfl
      rw [hz1] at e1
      cases e1
      dsimp only at b1 b2
      refine ⟨rfl, ⟨by omega, by omega⟩, ⟨trivial, (ni_1 (by decide +kernel) D0).1⟩, fun r hr => ⟨⟨r, rfl, fun _ => hr⟩, hs_fr.rf, fun _ _ h => ni_no h, fun _ _ => rfl, fun _ _ h => ni_no h⟩⟩
  exact ⟨_, key, by decide +kernel⟩
theorem nl_1 {sb : ai_SB} : ∀ j, j < 1 → ct_ok ny_ctf ny_ctk sb j := ct_more nl_0 nh_0
/-- findForce -/
theorem nh_1 {sb : ai_SB} : ct_ok ny_ctf ny_ctk sb 1 := by
  have key : ai_cs (ai_T 57) 0 sb (ny_q0 ++ [((-2147483648), 2147483647, 0)]) [(4, 0, 0, 0), (2, 43, 0, 1)] ny_W0 [bg_o (0, 0, 0) (ny_q0 ++ [((-2147483648), 2147483647, 0)]) ny_e0] := by
    refine bh_hand [] [] [12, 13] [12, 13] (0, 0, 0) c_findForce (by decide +kernel) (by decide +kernel) (by decide +kernel) (by decide +kernel) (by decide +kernel) (by decide +kernel) (fun ρ ad vs hG has => ?_)
    obtain ⟨u0, us0, rfl, ⟨a0, ha0, rfl⟩, has1⟩ := has.cons
    obtain ⟨u1, us1, rfl, ⟨x1, z1, rfl, hz1, hx1⟩, has2⟩ := has1.cons
    rw [has2.nil]
    refine ⟨(4, 0) :: [(0, x1.toInt)], ⟨⟨a0, ha0, rfl⟩, ⟨x1, rfl, rfl⟩, trivial⟩, fun S F0 D0 B0 I0 => ?_⟩
    · refine ⟨rfl, ⟨trivial, (ni_1 (by decide +kernel) D0).1⟩, ⟨trivial, fun _ _ _ => rfl, ni_bz D0 I0 12 20 (by decide) rfl rfl, ni_bz D0 I0 13 240 (by decide) rfl rfl⟩, fun A hA => ⟨rfl, hs_fr.rf, fun _ _ h => ni_no h, fun k hk => ?_, fun k x hk hx => ?_⟩⟩
      · simp at hk
        exact hA.1 k hk.1 hk.2
      · simp at hk
        rcases hk with rfl | rfl
        · cases (show some (Sum.inr (2, 20, ((0, 0, 0, 1) : ai_V), [])) = some x from hx)
          exact ⟨rfl, rfl, fun j hj _ => by have := hA.2.1 j hj; show 0 ≤ A 12 j ∧ A 12 j ≤ 1; omega⟩
        · cases (show some (Sum.inr (2, 240, ((0, 0, 0, 1) : ai_V), [])) = some x from hx)
          exact ⟨rfl, rfl, fun j hj _ => by have := hA.2.2 j hj; show 0 ≤ A 13 j ∧ A 13 j ≤ 1; omega⟩
  exact ⟨_, key, by decide +kernel⟩
theorem nl_2 {sb : ai_SB} : ∀ j, j < 2 → ct_ok ny_ctf ny_ctk sb j := ct_more nl_1 nh_1
/-- find -/
theorem nh_2 {sb : ai_SB} : ct_ok ny_ctf ny_ctk sb 2 := by
  have key : ai_cs (ai_T 56) 0 sb (ny_q0 ++ [((-2147483648), 2147483647, 0), ((-2147483648), 2147483647, 0)]) [(4, 0, 0, 0), (2, 43, 0, 1), (2, 44, 0, 1)] ny_W0 [bg_o (1, 0, 1) (ny_q0 ++ [((-2147483648), 2147483647, 0), ((-2147483648), 2147483647, 0)]) ny_e1] := by
    refine bh_hand [31, 32, 33] [] [15] [] (1, 0, 1) c_find (by decide +kernel) (by decide +kernel) (by decide +kernel) (by decide +kernel) (by decide +kernel) (by decide +kernel) (fun ρ ad vs hG has => ?_)
    obtain ⟨u0, us0, rfl, ⟨a0, ha0, rfl⟩, has1⟩ := has.cons
    obtain ⟨u1, us1, rfl, ⟨x1, z1, rfl, hz1, hx1⟩, has2⟩ := has1.cons
    obtain ⟨u2, us2, rfl, ⟨x2, z2, rfl, hz2, hx2⟩, has3⟩ := has2.cons
    rw [has3.nil]
    refine ⟨(4, 0) :: [(0, x1.toInt), (0, x2.toInt)], ⟨⟨a0, ha0, rfl⟩, ⟨x1, rfl, rfl⟩, ⟨x2, rfl, rfl⟩, trivial⟩, fun S F0 D0 B0 I0 => ?_⟩
    · refine ⟨rfl, ⟨trivial, (ni_1 (by decide +kernel) D0).1⟩, ⟨trivial, B0 31 (2, 0) rfl rfl⟩, fun w F A hw hq => ⟨⟨w, rfl, fun _ => by dsimp only; omega⟩, hq.1, fun _ _ h => ni_no h, fun k hk => ?_, fun _ _ h => ni_no h⟩⟩
      simp at hk
      exact hq.2.2 k hk
  exact ⟨_, key, by decide +kernel⟩
theorem nl_3 {sb : ai_SB} : ∀ j, j < 3 → ct_ok ny_ctf ny_ctk sb j := ct_more nl_2 nh_2
/-- leastBy -/
theorem nh_3 {sb : ai_SB} : ct_ok ny_ctf ny_ctk sb 3 := by
  have key : ai_cs (ai_T 95) 0 sb (ny_q0 ++ [((-2147483648), 2147483647, 0)]) [(4, 0, 0, 0), (2, 43, 0, 1)] ny_W0 [bg_o (1, (-2147483648), 2147483647) (ny_q0 ++ [((-2147483648), 2147483647, 0)]) ny_e0] := by
    refine bh_hand [] [] [21, 22, 23] [] (1, (-2147483648), 2147483647) c_leastBy (by decide +kernel) (by decide +kernel) (by decide +kernel) (by decide +kernel) (by decide +kernel) (by decide +kernel) (fun ρ ad vs hG has => ?_)
    obtain ⟨u0, us0, rfl, ⟨a0, ha0, rfl⟩, has1⟩ := has.cons
    obtain ⟨u1, us1, rfl, ⟨x1, z1, rfl, hz1, hx1⟩, has2⟩ := has1.cons
    rw [has2.nil]
    refine ⟨(4, 0) :: [(0, x1.toInt)], ⟨⟨a0, ha0, rfl⟩, ⟨x1, rfl, rfl⟩, trivial⟩, fun S F0 D0 B0 I0 => ?_⟩
    · refine ⟨rfl, ni_fd (q := (0, 7, 0)) hG F0 (t := 19) rfl rfl, ⟨trivial, ni_wz (by decide +kernel) D0 I0⟩, fun v A hA => ⟨⟨v, rfl, fun h => h⟩, hs_fr.rf, fun _ _ h => ni_no h, fun k hk => ?_, fun _ _ h => ni_no h⟩⟩
      simp at hk
      exact hA k hk.1 hk.2.1 hk.2.2
  exact ⟨_, key, by decide +kernel⟩
theorem nl_4 {sb : ai_SB} : ∀ j, j < 4 → ct_ok ny_ctf ny_ctk sb j := ct_more nl_3 nh_3
/-- row -/
theorem nh_4 {sb : ai_SB} : ct_ok ny_ctf ny_ctk sb 4 := by
  have key : ai_cs (ai_T 129) 0 sb (ny_q0 ++ [((-2147483648), 2147483647, 0), ((-2147483648), 2147483647, 0)]) [(4, 0, 0, 0), (2, 43, 0, 1), (2, 44, 0, 1)] ny_W0 [bg_o (1, (-2147483648), 2147483647) (ny_q0 ++ [((-2147483648), 2147483647, 0), ((-2147483648), 2147483647, 0)]) ny_e2] := by
    refine bh_hand [0, 1, 10] [10] [1] [1] (1, (-2147483648), 2147483647) c_row (by decide +kernel) (by decide +kernel) (by decide +kernel) (by decide +kernel) (by decide +kernel) (by decide +kernel) (fun ρ ad vs hG has => ?_)
    obtain ⟨u0, us0, rfl, ⟨a0, ha0, rfl⟩, has1⟩ := has.cons
    obtain ⟨u1, us1, rfl, ⟨x1, z1, rfl, hz1, hx1⟩, has2⟩ := has1.cons
    obtain ⟨u2, us2, rfl, ⟨x2, z2, rfl, hz2, hx2⟩, has3⟩ := has2.cons
    rw [has3.nil]
    refine ⟨(4, 0) :: [(0, x1.toInt), (0, x2.toInt)], ⟨⟨a0, ha0, rfl⟩, ⟨x1, rfl, rfl⟩, ⟨x2, rfl, rfl⟩, trivial⟩, fun S F0 D0 B0 I0 => ?_⟩
    · have b10 := ni_fd (q := (0, 400, 0)) hG F0 (j := 10) (t := 4) rfl rfl
      dsimp only at b10
      refine ⟨rfl, b10, ⟨trivial, (ni_1 (by decide +kernel) D0).1⟩, fun v F A hq => ⟨⟨v, rfl, fun h => h⟩, hq.1, fun j w hj hw => ?_, fun k hk => ?_, fun k x hk hx => ?_⟩⟩
      · simp at hj
        subst hj
        cases (show some ((0, 0, 0, 400) : ai_V) = some w from hw)
        intro _
        show 0 ≤ F 10 ∧ F 10 ≤ 400
        have := hq.2.1
        omega
      · simp at hk
        exact hq.2.2.1 k hk
      · simp at hk
        subst hk
        cases (show some (Sum.inr (0, 23016, ((10, 1, 0, 0) : ai_V), ny_ov)) = some x from hx)
        exact ⟨ni_ov (ni_1 (by decide +kernel) D0).2 (fun j hj h1 _ => hq.2.2.2.2 j hj h1), Or.inr ⟨rfl, rfl, rfl, hq.2.2.2.1⟩⟩
  exact ⟨_, key, by decide +kernel⟩
theorem nl_5 {sb : ai_SB} : ∀ j, j < 5 → ct_ok ny_ctf ny_ctk sb j := ct_more nl_4 nh_4
/-- order -/
theorem nh_5 {sb : ai_SB} : ct_ok ny_ctf ny_ctk sb 5 := by
  have key : ai_cs (ai_T 113) 0 sb (ny_q0 ++ [((-2147483648), 2147483647, 0)]) [(4, 0, 0, 0), (2, 43, 0, 1)] ny_W0 [bg_o (1, (-2147483648), 2147483647) (ny_q0 ++ [((-2147483648), 2147483647, 0)]) ny_e3] := by
    refine bh_hand hs_OF [10] [1, 7, 8, 9, 10, 11] [1] (1, (-2147483648), 2147483647) c_order (by decide +kernel) (by decide +kernel) (by decide +kernel) (by decide +kernel) (by decide +kernel) (by decide +kernel) (fun ρ ad vs hG has => ?_)
    obtain ⟨u0, us0, rfl, ⟨a0, ha0, rfl⟩, has1⟩ := has.cons
    obtain ⟨u1, us1, rfl, ⟨x1, z1, rfl, hz1, hx1⟩, has2⟩ := has1.cons
    rw [has2.nil]
    refine ⟨(4, 0) :: [(0, x1.toInt)], ⟨⟨a0, ha0, rfl⟩, ⟨x1, rfl, rfl⟩, trivial⟩, fun S F0 D0 B0 I0 => ?_⟩
    · have b10 := ni_fd (q := (0, 400, 0)) hG F0 (j := 10) (t := 4) rfl rfl
      dsimp only at b10
      refine ⟨rfl, b10, ⟨trivial, (ni_1 (by decide +kernel) D0).1⟩, fun v F A q1 q2 q3 q5 q4 => ⟨⟨v, rfl, fun h => h⟩, q1, fun j w hj hw => ?_, fun k hk => ?_, fun k x hk hx => ?_⟩⟩
      · simp at hj
        subst hj
        cases (show some ((0, 0, 0, 400) : ai_V) = some w from hw)
        exact fun _ => q2
      · simp at hk
        exact q4 k hk.1 hk.2.1 hk.2.2.1 hk.2.2.2.1 hk.2.2.2.2.1 hk.2.2.2.2.2
      · simp at hk
        subst hk
        cases (show some (Sum.inr (0, 23016, ((10, 1, 0, 0) : ai_V), ny_ov)) = some x from hx)
        exact ⟨ni_ov (ni_1 (by decide +kernel) D0).2 (fun j hj _ h2 => q5 j hj h2), Or.inr ⟨rfl, rfl, rfl, q3⟩⟩
  exact ⟨_, key, by decide +kernel⟩
theorem nl_6 {sb : ai_SB} : ∀ j, j < 6 → ct_ok ny_ctf ny_ctk sb j := ct_more nl_5 nh_5
/-- way -/
theorem nh_6 {sb : ai_SB} : ct_ok ny_ctf ny_ctk sb 6 := by
  have key : ai_cs (ai_T 150) 0 sb (ny_q0 ++ [((-2147483648), 2147483647, 0), ((-2147483648), 2147483647, 0)]) [(4, 0, 0, 0), (2, 43, 0, 1), (2, 44, 0, 1)] ny_W0 [bg_o (1, (-2147483648), 2147483647) (ny_q0 ++ [((-2147483648), 2147483647, 0), ((-2147483648), 2147483647, 0)]) ny_e4] := by
    refine bh_hand [0, 53, 54] [54] [29, 30, 31, 32] [] (1, (-2147483648), 2147483647) c_way (by decide +kernel) (by decide +kernel) (by decide +kernel) (by decide +kernel) (by decide +kernel) (by decide +kernel) (fun ρ ad vs hG has => ?_)
    obtain ⟨u0, us0, rfl, ⟨a0, ha0, rfl⟩, has1⟩ := has.cons
    obtain ⟨u1, us1, rfl, ⟨x1, z1, rfl, hz1, hx1⟩, has2⟩ := has1.cons
    obtain ⟨u2, us2, rfl, ⟨x2, z2, rfl, hz2, hx2⟩, has3⟩ := has2.cons
    rw [has3.nil]
    refine ⟨(4, 0) :: [(0, x1.toInt), (0, x2.toInt)], ⟨⟨a0, ha0, rfl⟩, ⟨x1, rfl, rfl⟩, ⟨x2, rfl, rfl⟩, trivial⟩, fun S F0 D0 B0 I0 => ?_⟩
    · refine ⟨rfl, ni_fd (q := (0, 7, 0)) hG F0 (j := 34) (t := 19) rfl rfl, ⟨trivial, (ni_1 (by decide +kernel) D0).1⟩, ⟨trivial, ni_wz (by decide +kernel) D0 I0⟩, ni_fd (q := (0, 7, 0)) hG F0 (j := 54) (t := 26) rfl rfl, ⟨trivial, B0 53 (2, 0) rfl rfl⟩, fun v F A hq => ⟨⟨v, rfl, fun h => h⟩, hq.1, fun j w hj hw => ?_, fun k hk => ?_, fun _ _ h => ni_no h⟩⟩
      · simp at hj
        subst hj
        cases (show some ((0, 0, 0, 7) : ai_V) = some w from hw)
        exact fun _ => hq.2.1
      · simp at hk
        exact hq.2.2.2 k hk.1 hk.2.1 hk.2.2.1 hk.2.2.2
  exact ⟨_, key, by decide +kernel⟩
theorem nl_7 {sb : ai_SB} : ∀ j, j < 7 → ct_ok ny_ctf ny_ctk sb j := ct_more nl_6 nh_6

/-! ===== the reference: methods that are proved by hand are contracts of the walk ===== -/
theorem y_1 {S : hs_S} (D0 : ∀ k x, yz_W0[k]? = some x → bg_dk x = true → bg_d S k x) : ro (S.2 1) := by
  have h := D0 1 (.inr (0, 23016, (10, 1, 0, 0), [])) rfl rfl
  obtain ⟨-, h⟩ := h
  rcases h with ⟨h, -⟩ | ⟨-, -, -, h⟩
  · cases h
  · exact h
abbrev y_I (S : hs_S) : Prop := ∀ k c, 0 < k → hs_sh[k]? = some c → (c.1 = 0 ∨ c.1 = 2) → ∀ j, j < c.2 → i32 (S.2 k j)
theorem y_wz {S : hs_S} (D0 : ∀ k x, yz_W0[k]? = some x → bg_dk x = true → bg_d S k x) (I0 : y_I S) : wz S.2 := by
  have h := D0 16 (.inr (0, 7, (0, 0, 0, 15), [])) rfl rfl
  obtain ⟨-, h⟩ := h
  rcases h with ⟨-, h⟩ | ⟨h, -⟩
  · intro x h0 h7
    exact h x.toNat (by omega) (I0 16 (0, 7) (by decide) rfl (Or.inl rfl) x.toNat (by dsimp only; omega))
  · cases h
theorem y_bz {S : hs_S} (D0 : ∀ k x, yz_W0[k]? = some x → bg_dk x = true → bg_d S k x) (I0 : y_I S) (k n : Nat) (hk : 0 < k) (h1 : yz_W0[k]? = some (.inr (2, n, (0, 0, 0, 1), []))) (h2 : hs_sh[k]? = some (2, n)) : bz S.2 k n := by
  have h := D0 k _ h1 rfl
  obtain ⟨-, -, h⟩ := h
  intro i hi
  have g := h i hi (I0 k (2, n) hk h2 (Or.inr rfl) i hi)
  dsimp only at g
  omega
theorem y_fd {ρ : ai_Rh} {G : ai_G} {S : hs_S} {j t : Nat} {q : Int × Int × Nat} (hG : ai_gok ρ G) (F0 : ∀ j w, (bg_fs yz_W0)[j]? = some w → bg_ft w = true → bg_fd ρ S j w) (h1 : (bg_fs yz_W0)[j]? = some (2, t, 0, 1)) (h2 : G[t]? = some q) : q.1 ≤ S.1 j ∧ S.1 j ≤ q.2.1 := by
  obtain ⟨-, h⟩ := F0 j _ h1 rfl
  obtain ⟨z, e, g1, g2, -⟩ := hG.at h2
  rw [h] at e
  cases e
  exact ⟨g1, g2⟩
theorem y_no {α : Prop} {j : Nat} (h : ([] : List Nat).contains j = true) : α := by
  simp at h
theorem yl_0 {sb : ai_SB} : ∀ j, j < 0 → ct_ok yz_ctf yz_ctk sb j := fun j hj => absurd hj (by omega)
/-- whereOf -/
theorem yh_0 {sb : ai_SB} : ct_ok yz_ctf yz_ctk sb 0 := by
  have key : ai_cs (ai_T 152) 0 sb (yz_q0 ++ [(0, 199, 0), ((-2147483648), 2147483647, 0), ((-2147483648), 2147483647, 0)]) [(4, 0, 0, 0), (2, 30, 0, 1), (2, 31, 0, 1), (2, 32, 0, 1)] yz_W0 [bg_o (1, 0, 15) (yz_q0 ++ [(0, 199, 0), ((-2147483648), 2147483647, 0), ((-2147483648), 2147483647, 0)]) yz_e0] := by
    refine bg_hand [] [] [] [] (1, 0, 15) c_whereOf (by decide +kernel) (by decide +kernel) (by decide +kernel) (by decide +kernel) (by decide +kernel) (by decide +kernel) (fun ρ ad vs hG has => ?_)
    obtain ⟨u0, us0, rfl, ⟨a0, ha0, rfl⟩, has1⟩ := has.cons
    obtain ⟨u1, us1, rfl, ⟨x1, z1, rfl, hz1, hx1⟩, has2⟩ := has1.cons
    obtain ⟨u2, us2, rfl, ⟨x2, z2, rfl, hz2, hx2⟩, has3⟩ := has2.cons
    obtain ⟨u3, us3, rfl, ⟨x3, z3, rfl, hz3, hx3⟩, has4⟩ := has3.cons
    rw [has4.nil]
    refine ⟨(4, 0) :: [(0, x1.toInt), (0, x2.toInt), (0, x3.toInt)], ⟨⟨a0, ha0, rfl⟩, ⟨x1, rfl, rfl⟩, ⟨x2, rfl, rfl⟩, ⟨x3, rfl, rfl⟩, trivial⟩, fun S F0 D0 B0 I0 => ?_⟩
    · obtain ⟨z1, e1, b1, b2, -⟩ := hG.at (t := 30) (q := (0, 199, 0)) rfl
      rw [hz1] at e1
      cases e1
      dsimp only at b1 b2
      refine ⟨rfl, ⟨by omega, by omega⟩, ⟨trivial, y_1 D0⟩, fun r hr => ⟨⟨r, rfl, fun _ => hr⟩, hs_fr.rf, fun _ _ h => y_no h, fun _ _ => rfl, fun _ _ h => y_no h⟩⟩
  exact ⟨_, key, by decide +kernel⟩
theorem yl_1 {sb : ai_SB} : ∀ j, j < 1 → ct_ok yz_ctf yz_ctk sb j := ct_more yl_0 yh_0
/-- findForce -/
theorem yh_1 {sb : ai_SB} : ct_ok yz_ctf yz_ctk sb 1 := by
  have key : ai_cs (ai_T 57) 0 sb (yz_q0 ++ [((-2147483648), 2147483647, 0)]) [(4, 0, 0, 0), (2, 30, 0, 1)] yz_W0 [bg_o (0, 0, 0) (yz_q0 ++ [((-2147483648), 2147483647, 0)]) yz_e0] := by
    refine bg_hand [] [] [12, 13] [12, 13] (0, 0, 0) c_findForce (by decide +kernel) (by decide +kernel) (by decide +kernel) (by decide +kernel) (by decide +kernel) (by decide +kernel) (fun ρ ad vs hG has => ?_)
    obtain ⟨u0, us0, rfl, ⟨a0, ha0, rfl⟩, has1⟩ := has.cons
    obtain ⟨u1, us1, rfl, ⟨x1, z1, rfl, hz1, hx1⟩, has2⟩ := has1.cons
    rw [has2.nil]
    refine ⟨(4, 0) :: [(0, x1.toInt)], ⟨⟨a0, ha0, rfl⟩, ⟨x1, rfl, rfl⟩, trivial⟩, fun S F0 D0 B0 I0 => ?_⟩
    · refine ⟨rfl, ⟨trivial, y_1 D0⟩, ⟨trivial, fun _ _ _ => rfl, y_bz D0 I0 12 20 (by decide) rfl rfl, y_bz D0 I0 13 240 (by decide) rfl rfl⟩, fun A hA => ⟨rfl, hs_fr.rf, fun _ _ h => y_no h, fun k hk => ?_, fun k x hk hx => ?_⟩⟩
      · simp at hk
        exact hA.1 k hk.1 hk.2
      · simp at hk
        rcases hk with rfl | rfl
        · cases (show some (Sum.inr (2, 20, ((0, 0, 0, 1) : ai_V), [])) = some x from hx)
          exact ⟨rfl, rfl, fun j hj _ => by have := hA.2.1 j hj; show 0 ≤ A 12 j ∧ A 12 j ≤ 1; omega⟩
        · cases (show some (Sum.inr (2, 240, ((0, 0, 0, 1) : ai_V), [])) = some x from hx)
          exact ⟨rfl, rfl, fun j hj _ => by have := hA.2.2 j hj; show 0 ≤ A 13 j ∧ A 13 j ≤ 1; omega⟩
  exact ⟨_, key, by decide +kernel⟩
theorem yl_2 {sb : ai_SB} : ∀ j, j < 2 → ct_ok yz_ctf yz_ctk sb j := ct_more yl_1 yh_1
/-- find -/
theorem yh_2 {sb : ai_SB} : ct_ok yz_ctf yz_ctk sb 2 := by
  have key : ai_cs (ai_T 56) 0 sb (yz_q0 ++ [((-2147483648), 2147483647, 0), ((-2147483648), 2147483647, 0)]) [(4, 0, 0, 0), (2, 30, 0, 1), (2, 31, 0, 1)] yz_W0 [bg_o (1, 0, 1) (yz_q0 ++ [((-2147483648), 2147483647, 0), ((-2147483648), 2147483647, 0)]) yz_e1] := by
    refine bg_hand [31, 32, 33] [] [15] [] (1, 0, 1) c_find (by decide +kernel) (by decide +kernel) (by decide +kernel) (by decide +kernel) (by decide +kernel) (by decide +kernel) (fun ρ ad vs hG has => ?_)
    obtain ⟨u0, us0, rfl, ⟨a0, ha0, rfl⟩, has1⟩ := has.cons
    obtain ⟨u1, us1, rfl, ⟨x1, z1, rfl, hz1, hx1⟩, has2⟩ := has1.cons
    obtain ⟨u2, us2, rfl, ⟨x2, z2, rfl, hz2, hx2⟩, has3⟩ := has2.cons
    rw [has3.nil]
    refine ⟨(4, 0) :: [(0, x1.toInt), (0, x2.toInt)], ⟨⟨a0, ha0, rfl⟩, ⟨x1, rfl, rfl⟩, ⟨x2, rfl, rfl⟩, trivial⟩, fun S F0 D0 B0 I0 => ?_⟩
    · refine ⟨rfl, ⟨trivial, y_1 D0⟩, ⟨trivial, B0 31 (2, 0) rfl rfl⟩, fun w F A hw hq => ⟨⟨w, rfl, fun _ => by dsimp only; omega⟩, hq.1, fun _ _ h => y_no h, fun k hk => ?_, fun _ _ h => y_no h⟩⟩
      simp at hk
      exact hq.2.2 k hk
  exact ⟨_, key, by decide +kernel⟩
theorem yl_3 {sb : ai_SB} : ∀ j, j < 3 → ct_ok yz_ctf yz_ctk sb j := ct_more yl_2 yh_2
/-- leastBy -/
theorem yh_3 {sb : ai_SB} : ct_ok yz_ctf yz_ctk sb 3 := by
  have key : ai_cs (ai_T 95) 0 sb (yz_q0 ++ [((-2147483648), 2147483647, 0)]) [(4, 0, 0, 0), (2, 30, 0, 1)] yz_W0 [bg_o (1, (-2147483648), 2147483647) (yz_q0 ++ [((-2147483648), 2147483647, 0)]) yz_e0] := by
    refine bg_hand [] [] [21, 22, 23] [] (1, (-2147483648), 2147483647) c_leastBy (by decide +kernel) (by decide +kernel) (by decide +kernel) (by decide +kernel) (by decide +kernel) (by decide +kernel) (fun ρ ad vs hG has => ?_)
    obtain ⟨u0, us0, rfl, ⟨a0, ha0, rfl⟩, has1⟩ := has.cons
    obtain ⟨u1, us1, rfl, ⟨x1, z1, rfl, hz1, hx1⟩, has2⟩ := has1.cons
    rw [has2.nil]
    refine ⟨(4, 0) :: [(0, x1.toInt)], ⟨⟨a0, ha0, rfl⟩, ⟨x1, rfl, rfl⟩, trivial⟩, fun S F0 D0 B0 I0 => ?_⟩
    · refine ⟨rfl, y_fd (q := (0, 7, 0)) hG F0 (t := 19) rfl rfl, ⟨trivial, y_wz D0 I0⟩, fun v A hA => ⟨⟨v, rfl, fun h => h⟩, hs_fr.rf, fun _ _ h => y_no h, fun k hk => ?_, fun _ _ h => y_no h⟩⟩
      simp at hk
      exact hA k hk.1 hk.2.1 hk.2.2
  exact ⟨_, key, by decide +kernel⟩
theorem yl_4 {sb : ai_SB} : ∀ j, j < 4 → ct_ok yz_ctf yz_ctk sb j := ct_more yl_3 yh_3
/-- row -/
theorem yh_4 {sb : ai_SB} : ct_ok yz_ctf yz_ctk sb 4 := by
  have key : ai_cs (ai_T 129) 0 sb (yz_q0 ++ [((-2147483648), 2147483647, 0), ((-2147483648), 2147483647, 0)]) [(4, 0, 0, 0), (2, 30, 0, 1), (2, 31, 0, 1)] yz_W0 [bg_o (1, (-2147483648), 2147483647) (yz_q0 ++ [((-2147483648), 2147483647, 0), ((-2147483648), 2147483647, 0)]) yz_e2] := by
    refine bg_hand [0, 1, 10] [10] [1] [1] (1, (-2147483648), 2147483647) c_row (by decide +kernel) (by decide +kernel) (by decide +kernel) (by decide +kernel) (by decide +kernel) (by decide +kernel) (fun ρ ad vs hG has => ?_)
    obtain ⟨u0, us0, rfl, ⟨a0, ha0, rfl⟩, has1⟩ := has.cons
    obtain ⟨u1, us1, rfl, ⟨x1, z1, rfl, hz1, hx1⟩, has2⟩ := has1.cons
    obtain ⟨u2, us2, rfl, ⟨x2, z2, rfl, hz2, hx2⟩, has3⟩ := has2.cons
    rw [has3.nil]
    refine ⟨(4, 0) :: [(0, x1.toInt), (0, x2.toInt)], ⟨⟨a0, ha0, rfl⟩, ⟨x1, rfl, rfl⟩, ⟨x2, rfl, rfl⟩, trivial⟩, fun S F0 D0 B0 I0 => ?_⟩
    · have b10 := y_fd (q := (0, 400, 0)) hG F0 (j := 10) (t := 4) rfl rfl
      dsimp only at b10
      refine ⟨rfl, b10, ⟨trivial, y_1 D0⟩, fun v F A hq => ⟨⟨v, rfl, fun h => h⟩, hq.1, fun j w hj hw => ?_, fun k hk => ?_, fun k x hk hx => ?_⟩⟩
      · simp at hj
        subst hj
        cases (show some ((0, 0, 0, 400) : ai_V) = some w from hw)
        intro _
        show 0 ≤ F 10 ∧ F 10 ≤ 400
        have := hq.2.1
        omega
      · simp at hk
        exact hq.2.2.1 k hk
      · simp at hk
        subst hk
        cases (show some (Sum.inr (0, 23016, ((10, 1, 0, 0) : ai_V), [])) = some x from hx)
        exact ⟨rfl, Or.inr ⟨rfl, rfl, rfl, hq.2.2.2⟩⟩
  exact ⟨_, key, by decide +kernel⟩
theorem yl_5 {sb : ai_SB} : ∀ j, j < 5 → ct_ok yz_ctf yz_ctk sb j := ct_more yl_4 yh_4
/-- order -/
theorem yh_5 {sb : ai_SB} : ct_ok yz_ctf yz_ctk sb 5 := by
  have key : ai_cs (ai_T 113) 0 sb (yz_q0 ++ [((-2147483648), 2147483647, 0)]) [(4, 0, 0, 0), (2, 30, 0, 1)] yz_W0 [bg_o (1, (-2147483648), 2147483647) (yz_q0 ++ [((-2147483648), 2147483647, 0)]) yz_e3] := by
    refine bg_hand hs_OF [10] [1, 7, 8, 9, 10, 11] [1] (1, (-2147483648), 2147483647) c_order (by decide +kernel) (by decide +kernel) (by decide +kernel) (by decide +kernel) (by decide +kernel) (by decide +kernel) (fun ρ ad vs hG has => ?_)
    obtain ⟨u0, us0, rfl, ⟨a0, ha0, rfl⟩, has1⟩ := has.cons
    obtain ⟨u1, us1, rfl, ⟨x1, z1, rfl, hz1, hx1⟩, has2⟩ := has1.cons
    rw [has2.nil]
    refine ⟨(4, 0) :: [(0, x1.toInt)], ⟨⟨a0, ha0, rfl⟩, ⟨x1, rfl, rfl⟩, trivial⟩, fun S F0 D0 B0 I0 => ?_⟩
    · have b10 := y_fd (q := (0, 400, 0)) hG F0 (j := 10) (t := 4) rfl rfl
      dsimp only at b10
      refine ⟨rfl, b10, ⟨trivial, y_1 D0⟩, fun v F A q1 q2 q3 q4 => ⟨⟨v, rfl, fun h => h⟩, q1, fun j w hj hw => ?_, fun k hk => ?_, fun k x hk hx => ?_⟩⟩
      · simp at hj
        subst hj
        cases (show some ((0, 0, 0, 400) : ai_V) = some w from hw)
        exact fun _ => q2
      · simp at hk
        exact q4 k hk.1 hk.2.1 hk.2.2.1 hk.2.2.2.1 hk.2.2.2.2.1 hk.2.2.2.2.2
      · simp at hk
        subst hk
        cases (show some (Sum.inr (0, 23016, ((10, 1, 0, 0) : ai_V), [])) = some x from hx)
        exact ⟨rfl, Or.inr ⟨rfl, rfl, rfl, q3⟩⟩
  exact ⟨_, key, by decide +kernel⟩
theorem yl_6 {sb : ai_SB} : ∀ j, j < 6 → ct_ok yz_ctf yz_ctk sb j := ct_more yl_5 yh_5
/-- way -/
theorem yh_6 {sb : ai_SB} : ct_ok yz_ctf yz_ctk sb 6 := by
  have key : ai_cs (ai_T 150) 0 sb (yz_q0 ++ [((-2147483648), 2147483647, 0), ((-2147483648), 2147483647, 0)]) [(4, 0, 0, 0), (2, 30, 0, 1), (2, 31, 0, 1)] yz_W0 [bg_o (1, (-2147483648), 2147483647) (yz_q0 ++ [((-2147483648), 2147483647, 0), ((-2147483648), 2147483647, 0)]) yz_e4] := by
    refine bg_hand [0, 53, 54] [54] [29, 30, 31, 32] [] (1, (-2147483648), 2147483647) c_way (by decide +kernel) (by decide +kernel) (by decide +kernel) (by decide +kernel) (by decide +kernel) (by decide +kernel) (fun ρ ad vs hG has => ?_)
    obtain ⟨u0, us0, rfl, ⟨a0, ha0, rfl⟩, has1⟩ := has.cons
    obtain ⟨u1, us1, rfl, ⟨x1, z1, rfl, hz1, hx1⟩, has2⟩ := has1.cons
    obtain ⟨u2, us2, rfl, ⟨x2, z2, rfl, hz2, hx2⟩, has3⟩ := has2.cons
    rw [has3.nil]
    refine ⟨(4, 0) :: [(0, x1.toInt), (0, x2.toInt)], ⟨⟨a0, ha0, rfl⟩, ⟨x1, rfl, rfl⟩, ⟨x2, rfl, rfl⟩, trivial⟩, fun S F0 D0 B0 I0 => ?_⟩
    · refine ⟨rfl, y_fd (q := (0, 7, 0)) hG F0 (j := 34) (t := 19) rfl rfl, ⟨trivial, y_1 D0⟩, ⟨trivial, y_wz D0 I0⟩, y_fd (q := (0, 7, 0)) hG F0 (j := 54) (t := 26) rfl rfl, ⟨trivial, B0 53 (2, 0) rfl rfl⟩, fun v F A hq => ⟨⟨v, rfl, fun h => h⟩, hq.1, fun j w hj hw => ?_, fun k hk => ?_, fun _ _ h => y_no h⟩⟩
      · simp at hj
        subst hj
        cases (show some ((0, 0, 0, 7) : ai_V) = some w from hw)
        exact fun _ => hq.2.1
      · simp at hk
        exact hq.2.2.2 k hk.1 hk.2.1 hk.2.2.1 hk.2.2.2
  exact ⟨_, key, by decide +kernel⟩
theorem yl_7 {sb : ai_SB} : ∀ j, j < 7 → ct_ok yz_ctf yz_ctk sb j := ct_more yl_6 yh_6

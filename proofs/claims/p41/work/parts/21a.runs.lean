set_option maxRecDepth 100000 in
/-- cJ7_fill_53178(37,) -/
theorem zs_0 : ai_shows zz_fnd zz_ctf zz_ctk zz_N ai_T ai_B1 20000 0 zz_f = true := by decide +kernel
theorem zl_1 (sb : Nat) : ∀ j, j < 1 → ct_ok zz_ctf zz_ctk sb j := ct_more (zl_0 sb) (ct_step zz_f zz_hf (zl_0 sb) rfl (by decide +kernel) (by decide +kernel) zs_0)
set_option maxRecDepth 100000 in
/-- cJ7_fill_53178(39,) -/
theorem zs_1 : ai_shows zz_fnd zz_ctf zz_ctk zz_N ai_T ai_B1 20000 1 zz_f = true := by decide +kernel
theorem zl_2 (sb : Nat) : ∀ j, j < 2 → ct_ok zz_ctf zz_ctk sb j := ct_more (zl_1 sb) (ct_step zz_f zz_hf (zl_1 sb) rfl (by decide +kernel) (by decide +kernel) zs_1)
set_option maxRecDepth 100000 in
/-- cJ7_fill_53178(42,) -/
theorem zs_2 : ai_shows zz_fnd zz_ctf zz_ctk zz_N ai_T ai_B1 20000 2 zz_f = true := by decide +kernel
theorem zl_3 (sb : Nat) : ∀ j, j < 3 → ct_ok zz_ctf zz_ctk sb j := ct_more (zl_2 sb) (ct_step zz_f zz_hf (zl_2 sb) rfl (by decide +kernel) (by decide +kernel) zs_2)
set_option maxRecDepth 100000 in
/-- cJ7_fill_53178(43,) -/
theorem zs_3 : ai_shows zz_fnd zz_ctf zz_ctk zz_N ai_T ai_B1 20000 3 zz_f = true := by decide +kernel
theorem zl_4 (sb : Nat) : ∀ j, j < 4 → ct_ok zz_ctf zz_ctk sb j := ct_more (zl_3 sb) (ct_step zz_f zz_hf (zl_3 sb) rfl (by decide +kernel) (by decide +kernel) zs_3)
set_option maxRecDepth 100000 in
/-- cJ7_fill_53178(47,) -/
theorem zs_4 : ai_shows zz_fnd zz_ctf zz_ctk zz_N ai_T ai_B1 20000 4 zz_f = true := by decide +kernel
theorem zl_5 (sb : Nat) : ∀ j, j < 5 → ct_ok zz_ctf zz_ctk sb j := ct_more (zl_4 sb) (ct_step zz_f zz_hf (zl_4 sb) rfl (by decide +kernel) (by decide +kernel) zs_4)
set_option maxRecDepth 100000 in
/-- cJ7_fill_53178(48,) -/
theorem zs_5 : ai_shows zz_fnd zz_ctf zz_ctk zz_N ai_T ai_B1 20000 5 zz_f = true := by decide +kernel
theorem zl_6 (sb : Nat) : ∀ j, j < 6 → ct_ok zz_ctf zz_ctk sb j := ct_more (zl_5 sb) (ct_step zz_f zz_hf (zl_5 sb) rfl (by decide +kernel) (by decide +kernel) zs_5)
set_option maxRecDepth 100000 in
/-- cJ7_fill_53178(51,) -/
theorem zs_6 : ai_shows zz_fnd zz_ctf zz_ctk zz_N ai_T ai_B1 20000 6 zz_f = true := by decide +kernel
theorem zl_7 (sb : Nat) : ∀ j, j < 7 → ct_ok zz_ctf zz_ctk sb j := ct_more (zl_6 sb) (ct_step zz_f zz_hf (zl_6 sb) rfl (by decide +kernel) (by decide +kernel) zs_6)
set_option maxRecDepth 100000 in
/-- cJ7_fill_53178(52,) -/
theorem zs_7 : ai_shows zz_fnd zz_ctf zz_ctk zz_N ai_T ai_B1 20000 7 zz_f = true := by decide +kernel
theorem zl_8 (sb : Nat) : ∀ j, j < 8 → ct_ok zz_ctf zz_ctk sb j := ct_more (zl_7 sb) (ct_step zz_f zz_hf (zl_7 sb) rfl (by decide +kernel) (by decide +kernel) zs_7)
set_option maxRecDepth 100000 in
/-- cJ7_fill_53178(67,) -/
theorem zs_8 : ai_shows zz_fnd zz_ctf zz_ctk zz_N ai_T ai_B1 20000 8 zz_f = true := by decide +kernel
theorem zl_9 (sb : Nat) : ∀ j, j < 9 → ct_ok zz_ctf zz_ctk sb j := ct_more (zl_8 sb) (ct_step zz_f zz_hf (zl_8 sb) rfl (by decide +kernel) (by decide +kernel) zs_8)
set_option maxRecDepth 100000 in
/-- cJ7_fill_d0a16(60,) -/
theorem zs_9 : ai_shows zz_fnd zz_ctf zz_ctk zz_N ai_T ai_B1 20000 9 zz_f = true := by decide +kernel
theorem zl_10 (sb : Nat) : ∀ j, j < 10 → ct_ok zz_ctf zz_ctk sb j := ct_more (zl_9 sb) (ct_step zz_f zz_hf (zl_9 sb) rfl (by decide +kernel) (by decide +kernel) zs_9)
set_option maxRecDepth 100000 in
/-- cX0_joined() -/
theorem zs_10 : ai_shows zz_fnd zz_ctf zz_ctk zz_N ai_T ai_B1 20000 10 zz_f = true := by decide +kernel
theorem zl_11 (sb : Nat) : ∀ j, j < 11 → ct_ok zz_ctf zz_ctk sb j := ct_more (zl_10 sb) (ct_step zz_f zz_hf (zl_10 sb) rfl (by decide +kernel) (by decide +kernel) zs_10)
set_option maxRecDepth 100000 in
/-- cX0_answer(38,) -/
theorem zs_11 : ai_shows zz_fnd zz_ctf zz_ctk zz_N ai_T ai_B1 20000 11 zz_f = true := by decide +kernel
theorem zl_12 (sb : Nat) : ∀ j, j < 12 → ct_ok zz_ctf zz_ctk sb j := ct_more (zl_11 sb) (ct_step zz_f zz_hf (zl_11 sb) rfl (by decide +kernel) (by decide +kernel) zs_11)
set_option maxRecDepth 100000 in
/-- cX2_distance(1,) -/
theorem zs_12 : ai_shows zz_fnd zz_ctf zz_ctk zz_N ai_T ai_B1 20000 12 zz_f = true := by decide +kernel
theorem zl_13 (sb : Nat) : ∀ j, j < 13 → ct_ok zz_ctf zz_ctk sb j := ct_more (zl_12 sb) (ct_step zz_f zz_hf (zl_12 sb) rfl (by decide +kernel) (by decide +kernel) zs_12)
set_option maxRecDepth 100000 in
/-- cX2_areBarred(1,) -/
theorem zs_13 : ai_shows zz_fnd zz_ctf zz_ctk zz_N ai_T ai_B1 20000 13 zz_f = true := by decide +kernel
theorem zl_14 (sb : Nat) : ∀ j, j < 14 → ct_ok zz_ctf zz_ctk sb j := ct_more (zl_13 sb) (ct_step zz_f zz_hf (zl_13 sb) rfl (by decide +kernel) (by decide +kernel) zs_13)
set_option maxRecDepth 100000 in
/-- cX2_firstBroken(1,) -/
theorem zs_14 : ai_shows zz_fnd zz_ctf zz_ctk zz_N ai_T ai_B1 20000 14 zz_f = true := by decide +kernel
theorem zl_15 (sb : Nat) : ∀ j, j < 15 → ct_ok zz_ctf zz_ctk sb j := ct_more (zl_14 sb) (ct_step zz_f zz_hf (zl_14 sb) rfl (by decide +kernel) (by decide +kernel) zs_14)
set_option maxRecDepth 100000 in
/-- cX2_isAhead(1,) -/
theorem zs_15 : ai_shows zz_fnd zz_ctf zz_ctk zz_N ai_T ai_B1 20000 15 zz_f = true := by decide +kernel
theorem zl_16 (sb : Nat) : ∀ j, j < 16 → ct_ok zz_ctf zz_ctk sb j := ct_more (zl_15 sb) (ct_step zz_f zz_hf (zl_15 sb) rfl (by decide +kernel) (by decide +kernel) zs_15)
set_option maxRecDepth 100000 in
/-- cX2_handedAhead(1,) -/
theorem zs_16 : ai_shows zz_fnd zz_ctf zz_ctk zz_N ai_T ai_B1 20000 16 zz_f = true := by decide +kernel
theorem zl_17 (sb : Nat) : ∀ j, j < 17 → ct_ok zz_ctf zz_ctk sb j := ct_more (zl_16 sb) (ct_step zz_f zz_hf (zl_16 sb) rfl (by decide +kernel) (by decide +kernel) zs_16)
set_option maxRecDepth 100000 in
/-- cX2_latestHanded(1,) -/
theorem zs_17 : ai_shows zz_fnd zz_ctf zz_ctk zz_N ai_T ai_B1 20000 17 zz_f = true := by decide +kernel
theorem zl_18 (sb : Nat) : ∀ j, j < 18 → ct_ok zz_ctf zz_ctk sb j := ct_more (zl_17 sb) (ct_step zz_f zz_hf (zl_17 sb) rfl (by decide +kernel) (by decide +kernel) zs_17)
set_option maxRecDepth 100000 in
/-- cX2_likeness(1,) -/
theorem zs_18 : ai_shows zz_fnd zz_ctf zz_ctk zz_N ai_T ai_B1 20000 18 zz_f = true := by decide +kernel
theorem zl_19 (sb : Nat) : ∀ j, j < 19 → ct_ok zz_ctf zz_ctk sb j := ct_more (zl_18 sb) (ct_step zz_f zz_hf (zl_18 sb) rfl (by decide +kernel) (by decide +kernel) zs_18)

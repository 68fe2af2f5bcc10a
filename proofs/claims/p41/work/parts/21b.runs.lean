set_option maxRecDepth 100000 in
/-- cX2_sumOfTellings(1,) -/
theorem zs_19 : ai_shows zz_fnd zz_ctf zz_ctk zz_N ai_T ai_B1 20000 19 zz_f = true := by decide +kernel
theorem zl_20 (sb : Nat) : ∀ j, j < 20 → ct_ok zz_ctf zz_ctk sb j := ct_more (zl_19 sb) (ct_step zz_f zz_hf (zl_19 sb) rfl (by decide +kernel) (by decide +kernel) zs_19)
set_option maxRecDepth 100000 in
/-- cX2_tellingAt(1,) -/
theorem zs_20 : ai_shows zz_fnd zz_ctf zz_ctk zz_N ai_T ai_B1 20000 20 zz_f = true := by decide +kernel
theorem zl_21 (sb : Nat) : ∀ j, j < 21 → ct_ok zz_ctf zz_ctk sb j := ct_more (zl_20 sb) (ct_step zz_f zz_hf (zl_20 sb) rfl (by decide +kernel) (by decide +kernel) zs_20)
set_option maxRecDepth 100000 in
/-- cX2_tellingsOf(1,) -/
theorem zs_21 : ai_shows zz_fnd zz_ctf zz_ctk zz_N ai_T ai_B1 20000 21 zz_f = true := by decide +kernel
theorem zl_22 (sb : Nat) : ∀ j, j < 22 → ct_ok zz_ctf zz_ctk sb j := ct_more (zl_21 sb) (ct_step zz_f zz_hf (zl_21 sb) rfl (by decide +kernel) (by decide +kernel) zs_21)
set_option maxRecDepth 100000 in
/-- cX3_kindHere(26,) -/
theorem zs_22 : ai_shows zz_fnd zz_ctf zz_ctk zz_N ai_T ai_B1 20000 22 zz_f = true := by decide +kernel
theorem zl_23 (sb : Nat) : ∀ j, j < 23 → ct_ok zz_ctf zz_ctk sb j := ct_more (zl_22 sb) (ct_step zz_f zz_hf (zl_22 sb) rfl (by decide +kernel) (by decide +kernel) zs_22)
set_option maxRecDepth 100000 in
/-- cX3_lettersAt(26,) -/
theorem zs_23 : ai_shows zz_fnd zz_ctf zz_ctk zz_N ai_T ai_B1 20000 23 zz_f = true := by decide +kernel
theorem zl_24 (sb : Nat) : ∀ j, j < 24 → ct_ok zz_ctf zz_ctk sb j := ct_more (zl_23 sb) (ct_step zz_f zz_hf (zl_23 sb) rfl (by decide +kernel) (by decide +kernel) zs_23)
set_option maxRecDepth 100000 in
/-- cX3_numberHere(26,) -/
theorem zs_24 : ai_shows zz_fnd zz_ctf zz_ctk zz_N ai_T ai_B1 20000 24 zz_f = true := by decide +kernel
theorem zl_25 (sb : Nat) : ∀ j, j < 25 → ct_ok zz_ctf zz_ctk sb j := ct_more (zl_24 sb) (ct_step zz_f zz_hf (zl_24 sb) rfl (by decide +kernel) (by decide +kernel) zs_24)
set_option maxRecDepth 100000 in
/-- cX3_numberOf(26,) -/
theorem zs_25 : ai_shows zz_fnd zz_ctf zz_ctk zz_N ai_T ai_B1 20000 25 zz_f = true := by decide +kernel
theorem zl_26 (sb : Nat) : ∀ j, j < 26 → ct_ok zz_ctf zz_ctk sb j := ct_more (zl_25 sb) (ct_step zz_f zz_hf (zl_25 sb) rfl (by decide +kernel) (by decide +kernel) zs_25)
set_option maxRecDepth 100000 in
/-- cX5_add(10,) -/
theorem zs_26 : ai_shows zz_fnd zz_ctf zz_ctk zz_N ai_T ai_B1 20000 26 zz_f = true := by decide +kernel
theorem zl_27 (sb : Nat) : ∀ j, j < 27 → ct_ok zz_ctf zz_ctk sb j := ct_more (zl_26 sb) (ct_step zz_f zz_hf (zl_26 sb) rfl (by decide +kernel) (by decide +kernel) zs_26)
set_option maxRecDepth 100000 in
/-- cX3_runEnd(26,) -/
theorem zs_27 : ai_shows zz_fnd zz_ctf zz_ctk zz_N ai_T ai_B1 20000 27 zz_f = true := by decide +kernel
theorem zl_28 (sb : Nat) : ∀ j, j < 28 → ct_ok zz_ctf zz_ctk sb j := ct_more (zl_27 sb) (ct_step zz_f zz_hf (zl_27 sb) rfl (by decide +kernel) (by decide +kernel) zs_27)
set_option maxRecDepth 100000 in
/-- cX3_startHere(26,) -/
theorem zs_28 : ai_shows zz_fnd zz_ctf zz_ctk zz_N ai_T ai_B1 20000 28 zz_f = true := by decide +kernel
theorem zl_29 (sb : Nat) : ∀ j, j < 29 → ct_ok zz_ctf zz_ctk sb j := ct_more (zl_28 sb) (ct_step zz_f zz_hf (zl_28 sb) rfl (by decide +kernel) (by decide +kernel) zs_28)
set_option maxRecDepth 100000 in
/-- cX3_write(26,) -/
theorem zs_29 : ai_shows zz_fnd zz_ctf zz_ctk zz_N ai_T ai_B1 20000 29 zz_f = true := by decide +kernel
theorem zl_30 (sb : Nat) : ∀ j, j < 30 → ct_ok zz_ctf zz_ctk sb j := ct_more (zl_29 sb) (ct_step zz_f zz_hf (zl_29 sb) rfl (by decide +kernel) (by decide +kernel) zs_29)
set_option maxRecDepth 100000 in
/-- cX7_ruled(31,) -/
theorem zs_30 : ai_shows zz_fnd zz_ctf zz_ctk zz_N ai_T ai_B1 20000 30 zz_f = true := by decide +kernel
theorem zl_31 (sb : Nat) : ∀ j, j < 31 → ct_ok zz_ctf zz_ctk sb j := ct_more (zl_30 sb) (ct_step zz_f zz_hf (zl_30 sb) rfl (by decide +kernel) (by decide +kernel) zs_30)
set_option maxRecDepth 100000 in
/-- cX7_tellPlace(31,) -/
theorem zs_31 : ai_shows zz_fnd zz_ctf zz_ctk zz_N ai_T ai_B1 20000 31 zz_f = true := by decide +kernel
theorem zl_32 (sb : Nat) : ∀ j, j < 32 → ct_ok zz_ctf zz_ctk sb j := ct_more (zl_31 sb) (ct_step zz_f zz_hf (zl_31 sb) rfl (by decide +kernel) (by decide +kernel) zs_31)
set_option maxRecDepth 100000 in
/-- cX5_add(2,) -/
theorem zs_32 : ai_shows zz_fnd zz_ctf zz_ctk zz_N ai_T ai_B1 20000 32 zz_f = true := by decide +kernel
theorem zl_33 (sb : Nat) : ∀ j, j < 33 → ct_ok zz_ctf zz_ctk sb j := ct_more (zl_32 sb) (ct_step zz_f zz_hf (zl_32 sb) rfl (by decide +kernel) (by decide +kernel) zs_32)
set_option maxRecDepth 100000 in
/-- cX5_add(4,) -/
theorem zs_33 : ai_shows zz_fnd zz_ctf zz_ctk zz_N ai_T ai_B1 20000 33 zz_f = true := by decide +kernel
theorem zl_34 (sb : Nat) : ∀ j, j < 34 → ct_ok zz_ctf zz_ctk sb j := ct_more (zl_33 sb) (ct_step zz_f zz_hf (zl_33 sb) rfl (by decide +kernel) (by decide +kernel) zs_33)
set_option maxRecDepth 100000 in
/-- cX5_add(6,) -/
theorem zs_34 : ai_shows zz_fnd zz_ctf zz_ctk zz_N ai_T ai_B1 20000 34 zz_f = true := by decide +kernel
theorem zl_35 (sb : Nat) : ∀ j, j < 35 → ct_ok zz_ctf zz_ctk sb j := ct_more (zl_34 sb) (ct_step zz_f zz_hf (zl_34 sb) rfl (by decide +kernel) (by decide +kernel) zs_34)
set_option maxRecDepth 100000 in
/-- cX5_add(8,) -/
theorem zs_35 : ai_shows zz_fnd zz_ctf zz_ctk zz_N ai_T ai_B1 20000 35 zz_f = true := by decide +kernel
theorem zl_36 (sb : Nat) : ∀ j, j < 36 → ct_ok zz_ctf zz_ctk sb j := ct_more (zl_35 sb) (ct_step zz_f zz_hf (zl_35 sb) rfl (by decide +kernel) (by decide +kernel) zs_35)
set_option maxRecDepth 100000 in
/-- cX5_add(14,) -/
theorem zs_36 : ai_shows zz_fnd zz_ctf zz_ctk zz_N ai_T ai_B1 20000 36 zz_f = true := by decide +kernel
theorem zl_37 (sb : Nat) : ∀ j, j < 37 → ct_ok zz_ctf zz_ctk sb j := ct_more (zl_36 sb) (ct_step zz_f zz_hf (zl_36 sb) rfl (by decide +kernel) (by decide +kernel) zs_36)
set_option maxRecDepth 100000 in
/-- cX5_add(16,) -/
theorem zs_37 : ai_shows zz_fnd zz_ctf zz_ctk zz_N ai_T ai_B1 20000 37 zz_f = true := by decide +kernel
theorem zl_38 (sb : Nat) : ∀ j, j < 38 → ct_ok zz_ctf zz_ctk sb j := ct_more (zl_37 sb) (ct_step zz_f zz_hf (zl_37 sb) rfl (by decide +kernel) (by decide +kernel) zs_37)
set_option maxRecDepth 100000 in
/-- cX5_add(18,) -/
theorem zs_38 : ai_shows zz_fnd zz_ctf zz_ctk zz_N ai_T ai_B1 20000 38 zz_f = true := by decide +kernel
theorem zl_39 (sb : Nat) : ∀ j, j < 39 → ct_ok zz_ctf zz_ctk sb j := ct_more (zl_38 sb) (ct_step zz_f zz_hf (zl_38 sb) rfl (by decide +kernel) (by decide +kernel) zs_38)
set_option maxRecDepth 100000 in
/-- cX5_add(20,) -/
theorem zs_39 : ai_shows zz_fnd zz_ctf zz_ctk zz_N ai_T ai_B1 20000 39 zz_f = true := by decide +kernel
theorem zl_40 (sb : Nat) : ∀ j, j < 40 → ct_ok zz_ctf zz_ctk sb j := ct_more (zl_39 sb) (ct_step zz_f zz_hf (zl_39 sb) rfl (by decide +kernel) (by decide +kernel) zs_39)
set_option maxRecDepth 100000 in
/-- cX5_add(22,) -/
theorem zs_40 : ai_shows zz_fnd zz_ctf zz_ctk zz_N ai_T ai_B1 20000 40 zz_f = true := by decide +kernel
theorem zl_41 (sb : Nat) : ∀ j, j < 41 → ct_ok zz_ctf zz_ctk sb j := ct_more (zl_40 sb) (ct_step zz_f zz_hf (zl_40 sb) rfl (by decide +kernel) (by decide +kernel) zs_40)
set_option maxRecDepth 100000 in
/-- cX6_addSymbols(41,) -/
theorem zs_41 : ai_shows zz_fnd zz_ctf zz_ctk zz_N ai_T ai_B1 20000 41 zz_f = true := by decide +kernel
theorem zl_42 (sb : Nat) : ∀ j, j < 42 → ct_ok zz_ctf zz_ctk sb j := ct_more (zl_41 sb) (ct_step zz_f zz_hf (zl_41 sb) rfl (by decide +kernel) (by decide +kernel) zs_41)
set_option maxRecDepth 100000 in
/-- cX6_addValid(41,) -/
theorem zs_42 : ai_shows zz_fnd zz_ctf zz_ctk zz_N ai_T ai_B1 20000 42 zz_f = true := by decide +kernel
theorem zl_43 (sb : Nat) : ∀ j, j < 43 → ct_ok zz_ctf zz_ctk sb j := ct_more (zl_42 sb) (ct_step zz_f zz_hf (zl_42 sb) rfl (by decide +kernel) (by decide +kernel) zs_42)
set_option maxRecDepth 100000 in
/-- cX6_figure(41,) -/
theorem zs_43 : ai_shows zz_fnd zz_ctf zz_ctk zz_N ai_T ai_B1 20000 43 zz_f = true := by decide +kernel
theorem zl_44 (sb : Nat) : ∀ j, j < 44 → ct_ok zz_ctf zz_ctk sb j := ct_more (zl_43 sb) (ct_step zz_f zz_hf (zl_43 sb) rfl (by decide +kernel) (by decide +kernel) zs_43)
set_option maxRecDepth 100000 in
/-- cX6_lost(41,) -/
theorem zs_44 : ai_shows zz_fnd zz_ctf zz_ctk zz_N ai_T ai_B1 20000 44 zz_f = true := by decide +kernel
theorem zl_45 (sb : Nat) : ∀ j, j < 45 → ct_ok zz_ctf zz_ctk sb j := ct_more (zl_44 sb) (ct_step zz_f zz_hf (zl_44 sb) rfl (by decide +kernel) (by decide +kernel) zs_44)
set_option maxRecDepth 100000 in
/-- cX6_askOrders(41,) -/
theorem zs_45 : ai_shows zz_fnd zz_ctf zz_ctk zz_N ai_T ai_B1 20000 45 zz_f = true := by decide +kernel
theorem zl_46 (sb : Nat) : ∀ j, j < 46 → ct_ok zz_ctf zz_ctk sb j := ct_more (zl_45 sb) (ct_step zz_f zz_hf (zl_45 sb) rfl (by decide +kernel) (by decide +kernel) zs_45)

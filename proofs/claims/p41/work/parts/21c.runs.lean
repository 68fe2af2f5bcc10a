set_option maxRecDepth 100000 in
/-- cX6_mayStand(41,) -/
theorem zs_46 : ai_shows zz_fnd zz_ctf zz_ctk zz_N ai_T ai_B1 20000 46 zz_f = true := by decide +kernel
theorem zl_47 (sb : Nat) : ∀ j, j < 47 → ct_ok zz_ctf zz_ctk sb j := ct_more (zl_46 sb) (ct_step zz_f zz_hf (zl_46 sb) rfl (by decide +kernel) (by decide +kernel) zs_46)
set_option maxRecDepth 100000 in
/-- cX6_holder(41,) -/
theorem zs_47 : ai_shows zz_fnd zz_ctf zz_ctk zz_N ai_T ai_B1 20000 47 zz_f = true := by decide +kernel
theorem zl_48 (sb : Nat) : ∀ j, j < 48 → ct_ok zz_ctf zz_ctk sb j := ct_more (zl_47 sb) (ct_step zz_f zz_hf (zl_47 sb) rfl (by decide +kernel) (by decide +kernel) zs_47)
set_option maxRecDepth 100000 in
/-- cX6_margin(41,) -/
theorem zs_48 : ai_shows zz_fnd zz_ctf zz_ctk zz_N ai_T ai_B1 20000 48 zz_f = true := by decide +kernel
theorem zl_49 (sb : Nat) : ∀ j, j < 49 → ct_ok zz_ctf zz_ctk sb j := ct_more (zl_48 sb) (ct_step zz_f zz_hf (zl_48 sb) rfl (by decide +kernel) (by decide +kernel) zs_48)
set_option maxRecDepth 100000 in
/-- cX6_hangs(41,) -/
theorem zs_49 : ai_shows zz_fnd zz_ctf zz_ctk zz_N ai_T ai_B1 20000 49 zz_f = true := by decide +kernel
theorem zl_50 (sb : Nat) : ∀ j, j < 50 → ct_ok zz_ctf zz_ctk sb j := ct_more (zl_49 sb) (ct_step zz_f zz_hf (zl_49 sb) rfl (by decide +kernel) (by decide +kernel) zs_49)
set_option maxRecDepth 100000 in
/-- cX6_join(41,) -/
theorem zs_50 : ai_shows zz_fnd zz_ctf zz_ctk zz_N ai_T ai_B1 20000 50 zz_f = true := by decide +kernel
theorem zl_51 (sb : Nat) : ∀ j, j < 51 → ct_ok zz_ctf zz_ctk sb j := ct_more (zl_50 sb) (ct_step zz_f zz_hf (zl_50 sb) rfl (by decide +kernel) (by decide +kernel) zs_50)
set_option maxRecDepth 100000 in
/-- cX6_joinedBooths(41,) -/
theorem zs_51 : ai_shows zz_fnd zz_ctf zz_ctk zz_N ai_T ai_B1 20000 51 zz_f = true := by decide +kernel
theorem zl_52 (sb : Nat) : ∀ j, j < 52 → ct_ok zz_ctf zz_ctk sb j := ct_more (zl_51 sb) (ct_step zz_f zz_hf (zl_51 sb) rfl (by decide +kernel) (by decide +kernel) zs_51)
set_option maxRecDepth 100000 in
/-- cX6_joinedSum(41,) -/
theorem zs_52 : ai_shows zz_fnd zz_ctf zz_ctk zz_N ai_T ai_B1 20000 52 zz_f = true := by decide +kernel
theorem zl_53 (sb : Nat) : ∀ j, j < 53 → ct_ok zz_ctf zz_ctk sb j := ct_more (zl_52 sb) (ct_step zz_f zz_hf (zl_52 sb) rfl (by decide +kernel) (by decide +kernel) zs_52)
set_option maxRecDepth 100000 in
/-- cX9_unset(49,) -/
theorem zs_53 : ai_shows zz_fnd zz_ctf zz_ctk zz_N ai_T ai_B1 20000 53 zz_f = true := by decide +kernel
theorem zl_54 (sb : Nat) : ∀ j, j < 54 → ct_ok zz_ctf zz_ctk sb j := ct_more (zl_53 sb) (ct_step zz_f zz_hf (zl_53 sb) rfl (by decide +kernel) (by decide +kernel) zs_53)
set_option maxRecDepth 100000 in
/-- cX6_readCounts(41,) -/
theorem zs_54 : ai_shows zz_fnd zz_ctf zz_ctk zz_N ai_T ai_B1 20000 54 zz_f = true := by decide +kernel
theorem zl_55 (sb : Nat) : ∀ j, j < 55 → ct_ok zz_ctf zz_ctk sb j := ct_more (zl_54 sb) (ct_step zz_f zz_hf (zl_54 sb) rfl (by decide +kernel) (by decide +kernel) zs_54)
set_option maxRecDepth 100000 in
/-- cX9_unset(44,) -/
theorem zs_55 : ai_shows zz_fnd zz_ctf zz_ctk zz_N ai_T ai_B1 20000 55 zz_f = true := by decide +kernel
theorem zl_56 (sb : Nat) : ∀ j, j < 56 → ct_ok zz_ctf zz_ctk sb j := ct_more (zl_55 sb) (ct_step zz_f zz_hf (zl_55 sb) rfl (by decide +kernel) (by decide +kernel) zs_55)
set_option maxRecDepth 100000 in
/-- cX6_readHanded(41,) -/
theorem zs_56 : ai_shows zz_fnd zz_ctf zz_ctk zz_N ai_T ai_B1 20000 56 zz_f = true := by decide +kernel
theorem zl_57 (sb : Nat) : ∀ j, j < 57 → ct_ok zz_ctf zz_ctk sb j := ct_more (zl_56 sb) (ct_step zz_f zz_hf (zl_56 sb) rfl (by decide +kernel) (by decide +kernel) zs_56)
set_option maxRecDepth 100000 in
/-- cX6_readPapers(41,) -/
theorem zs_57 : ai_shows zz_fnd zz_ctf zz_ctk zz_N ai_T ai_B1 20000 57 zz_f = true := by decide +kernel
theorem zl_58 (sb : Nat) : ∀ j, j < 58 → ct_ok zz_ctf zz_ctk sb j := ct_more (zl_57 sb) (ct_step zz_f zz_hf (zl_57 sb) rfl (by decide +kernel) (by decide +kernel) zs_57)
set_option maxRecDepth 100000 in
/-- cX6_reckon(41,) -/
theorem zs_58 : ai_shows zz_fnd zz_ctf zz_ctk zz_N ai_T ai_B1 20000 58 zz_f = true := by decide +kernel
theorem zl_59 (sb : Nat) : ∀ j, j < 59 → ct_ok zz_ctf zz_ctk sb j := ct_more (zl_58 sb) (ct_step zz_f zz_hf (zl_58 sb) rfl (by decide +kernel) (by decide +kernel) zs_58)
set_option maxRecDepth 100000 in
/-- cX6_sumByAllSeats(41,) -/
theorem zs_59 : ai_shows zz_fnd zz_ctf zz_ctk zz_N ai_T ai_B1 20000 59 zz_f = true := by decide +kernel
theorem zl_60 (sb : Nat) : ∀ j, j < 60 → ct_ok zz_ctf zz_ctk sb j := ct_more (zl_59 sb) (ct_step zz_f zz_hf (zl_59 sb) rfl (by decide +kernel) (by decide +kernel) zs_59)
set_option maxRecDepth 100000 in
/-- cX6_shareOf(41,) -/
theorem zs_60 : ai_shows zz_fnd zz_ctf zz_ctk zz_N ai_T ai_B1 20000 60 zz_f = true := by decide +kernel
theorem zl_61 (sb : Nat) : ∀ j, j < 61 → ct_ok zz_ctf zz_ctk sb j := ct_more (zl_60 sb) (ct_step zz_f zz_hf (zl_60 sb) rfl (by decide +kernel) (by decide +kernel) zs_60)
set_option maxRecDepth 100000 in
/-- cX6_toldOf(41,) -/
theorem zs_61 : ai_shows zz_fnd zz_ctf zz_ctk zz_N ai_T ai_B1 20000 61 zz_f = true := by decide +kernel
theorem zl_62 (sb : Nat) : ∀ j, j < 62 → ct_ok zz_ctf zz_ctk sb j := ct_more (zl_61 sb) (ct_step zz_f zz_hf (zl_61 sb) rfl (by decide +kernel) (by decide +kernel) zs_61)
set_option maxRecDepth 100000 in
/-- cX9_unset(32,) -/
theorem zs_62 : ai_shows zz_fnd zz_ctf zz_ctk zz_N ai_T ai_B1 20000 62 zz_f = true := by decide +kernel
theorem zl_63 (sb : Nat) : ∀ j, j < 63 → ct_ok zz_ctf zz_ctk sb j := ct_more (zl_62 sb) (ct_step zz_f zz_hf (zl_62 sb) rfl (by decide +kernel) (by decide +kernel) zs_62)
set_option maxRecDepth 100000 in
/-- cX9_unset(33,) -/
theorem zs_63 : ai_shows zz_fnd zz_ctf zz_ctk zz_N ai_T ai_B1 20000 63 zz_f = true := by decide +kernel
theorem zl_64 (sb : Nat) : ∀ j, j < 64 → ct_ok zz_ctf zz_ctk sb j := ct_more (zl_63 sb) (ct_step zz_f zz_hf (zl_63 sb) rfl (by decide +kernel) (by decide +kernel) zs_63)
set_option maxRecDepth 100000 in
/-- cX7_hasCome(31,) -/
theorem zs_64 : ai_shows zz_fnd zz_ctf zz_ctk zz_N ai_T ai_B1 20000 64 zz_f = true := by decide +kernel
theorem zl_65 (sb : Nat) : ∀ j, j < 65 → ct_ok zz_ctf zz_ctk sb j := ct_more (zl_64 sb) (ct_step zz_f zz_hf (zl_64 sb) rfl (by decide +kernel) (by decide +kernel) zs_64)
set_option maxRecDepth 100000 in
/-- cX7_placeThen(31,) -/
theorem zs_65 : ai_shows zz_fnd zz_ctf zz_ctk zz_N ai_T ai_B1 20000 65 zz_f = true := by decide +kernel
theorem zl_66 (sb : Nat) : ∀ j, j < 66 → ct_ok zz_ctf zz_ctk sb j := ct_more (zl_65 sb) (ct_step zz_f zz_hf (zl_65 sb) rfl (by decide +kernel) (by decide +kernel) zs_65)
set_option maxRecDepth 100000 in
/-- cX7_tellName(31,) -/
theorem zs_66 : ai_shows zz_fnd zz_ctf zz_ctk zz_N ai_T ai_B1 20000 66 zz_f = true := by decide +kernel
theorem zl_67 (sb : Nat) : ∀ j, j < 67 → ct_ok zz_ctf zz_ctk sb j := ct_more (zl_66 sb) (ct_step zz_f zz_hf (zl_66 sb) rfl (by decide +kernel) (by decide +kernel) zs_66)

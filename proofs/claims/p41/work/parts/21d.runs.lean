set_option maxRecDepth 100000 in
/-- cX7_isOnRoll(31,) -/
theorem zs_67 : ai_shows zz_fnd zz_ctf zz_ctk zz_N ai_T ai_B1 20000 67 zz_f = true := by decide +kernel
theorem zl_68 (sb : Nat) : ∀ j, j < 68 → ct_ok zz_ctf zz_ctk sb j := ct_more (zl_67 sb) (ct_step zz_f zz_hf (zl_67 sb) rfl (by decide +kernel) (by decide +kernel) zs_67)
set_option maxRecDepth 100000 in
/-- cX7_pairAt(31,) -/
theorem zs_68 : ai_shows zz_fnd zz_ctf zz_ctk zz_N ai_T ai_B1 20000 68 zz_f = true := by decide +kernel
theorem zl_69 (sb : Nat) : ∀ j, j < 69 → ct_ok zz_ctf zz_ctk sb j := ct_more (zl_68 sb) (ct_step zz_f zz_hf (zl_68 sb) rfl (by decide +kernel) (by decide +kernel) zs_68)
set_option maxRecDepth 100000 in
/-- cX8_areAllThere(53,) -/
theorem zs_69 : ai_shows zz_fnd zz_ctf zz_ctk zz_N ai_T ai_B1 20000 69 zz_f = true := by decide +kernel
theorem zl_70 (sb : Nat) : ∀ j, j < 70 → ct_ok zz_ctf zz_ctk sb j := ct_more (zl_69 sb) (ct_step zz_f zz_hf (zl_69 sb) rfl (by decide +kernel) (by decide +kernel) zs_69)
set_option maxRecDepth 100000 in
/-- cX8_holds(53,) -/
theorem zs_70 : ai_shows zz_fnd zz_ctf zz_ctk zz_N ai_T ai_B1 20000 70 zz_f = true := by decide +kernel
theorem zl_71 (sb : Nat) : ∀ j, j < 71 → ct_ok zz_ctf zz_ctk sb j := ct_more (zl_70 sb) (ct_step zz_f zz_hf (zl_70 sb) rfl (by decide +kernel) (by decide +kernel) zs_70)
set_option maxRecDepth 100000 in
/-- cX9_all(0,) -/
theorem zs_71 : ai_shows zz_fnd zz_ctf zz_ctk zz_N ai_T ai_B1 20000 71 zz_f = true := by decide +kernel
theorem zl_72 (sb : Nat) : ∀ j, j < 72 → ct_ok zz_ctf zz_ctk sb j := ct_more (zl_71 sb) (ct_step zz_f zz_hf (zl_71 sb) rfl (by decide +kernel) (by decide +kernel) zs_71)
set_option maxRecDepth 100000 in
/-- cX9_alter(0,) -/
theorem zs_72 : ai_shows zz_fnd zz_ctf zz_ctk zz_N ai_T ai_B1 20000 72 zz_f = true := by decide +kernel
theorem zl_73 (sb : Nat) : ∀ j, j < 73 → ct_ok zz_ctf zz_ctk sb j := ct_more (zl_72 sb) (ct_step zz_f zz_hf (zl_72 sb) rfl (by decide +kernel) (by decide +kernel) zs_72)
set_option maxRecDepth 100000 in
/-- cX9_apart(0,) -/
theorem zs_73 : ai_shows zz_fnd zz_ctf zz_ctk zz_N ai_T ai_B1 20000 73 zz_f = true := by decide +kernel
theorem zl_74 (sb : Nat) : ∀ j, j < 74 → ct_ok zz_ctf zz_ctk sb j := ct_more (zl_73 sb) (ct_step zz_f zz_hf (zl_73 sb) rfl (by decide +kernel) (by decide +kernel) zs_73)
set_option maxRecDepth 100000 in
/-- cX9_back(0,) -/
theorem zs_74 : ai_shows zz_fnd zz_ctf zz_ctk zz_N ai_T ai_B1 20000 74 zz_f = true := by decide +kernel
theorem zl_75 (sb : Nat) : ∀ j, j < 75 → ct_ok zz_ctf zz_ctk sb j := ct_more (zl_74 sb) (ct_step zz_f zz_hf (zl_74 sb) rfl (by decide +kernel) (by decide +kernel) zs_74)
set_option maxRecDepth 100000 in
/-- cX9_booth(0,) -/
theorem zs_75 : ai_shows zz_fnd zz_ctf zz_ctk zz_N ai_T ai_B1 20000 75 zz_f = true := by decide +kernel
theorem zl_76 (sb : Nat) : ∀ j, j < 76 → ct_ok zz_ctf zz_ctk sb j := ct_more (zl_75 sb) (ct_step zz_f zz_hf (zl_75 sb) rfl (by decide +kernel) (by decide +kernel) zs_75)
set_option maxRecDepth 100000 in
/-- cX9_box(0,) -/
theorem zs_76 : ai_shows zz_fnd zz_ctf zz_ctk zz_N ai_T ai_B1 20000 76 zz_f = true := by decide +kernel
theorem zl_77 (sb : Nat) : ∀ j, j < 77 → ct_ok zz_ctf zz_ctk sb j := ct_more (zl_76 sb) (ct_step zz_f zz_hf (zl_76 sb) rfl (by decide +kernel) (by decide +kernel) zs_76)
set_option maxRecDepth 100000 in
/-- cX9_broken(0,) -/
theorem zs_77 : ai_shows zz_fnd zz_ctf zz_ctk zz_N ai_T ai_B1 20000 77 zz_f = true := by decide +kernel
theorem zl_78 (sb : Nat) : ∀ j, j < 78 → ct_ok zz_ctf zz_ctk sb j := ct_more (zl_77 sb) (ct_step zz_f zz_hf (zl_77 sb) rfl (by decide +kernel) (by decide +kernel) zs_77)
set_option maxRecDepth 100000 in
/-- cX9_canBeName() -/
theorem zs_78 : ai_shows zz_fnd zz_ctf zz_ctk zz_N ai_T ai_B1 20000 78 zz_f = true := by decide +kernel
theorem zl_79 (sb : Nat) : ∀ j, j < 79 → ct_ok zz_ctf zz_ctk sb j := ct_more (zl_78 sb) (ct_step zz_f zz_hf (zl_78 sb) rfl (by decide +kernel) (by decide +kernel) zs_78)
set_option maxRecDepth 100000 in
/-- cX9_choices() -/
theorem zs_79 : ai_shows zz_fnd zz_ctf zz_ctk zz_N ai_T ai_B1 20000 79 zz_f = true := by decide +kernel
theorem zl_80 (sb : Nat) : ∀ j, j < 80 → ct_ok zz_ctf zz_ctk sb j := ct_more (zl_79 sb) (ct_step zz_f zz_hf (zl_79 sb) rfl (by decide +kernel) (by decide +kernel) zs_79)
set_option maxRecDepth 100000 in
/-- cX9_clear(0,) -/
theorem zs_80 : ai_shows zz_fnd zz_ctf zz_ctk zz_N ai_T ai_B1 20000 80 zz_f = true := by decide +kernel
theorem zl_81 (sb : Nat) : ∀ j, j < 81 → ct_ok zz_ctf zz_ctk sb j := ct_more (zl_80 sb) (ct_step zz_f zz_hf (zl_80 sb) rfl (by decide +kernel) (by decide +kernel) zs_80)
set_option maxRecDepth 100000 in
/-- cX9_count(0,) -/
theorem zs_81 : ai_shows zz_fnd zz_ctf zz_ctk zz_N ai_T ai_B1 20000 81 zz_f = true := by decide +kernel
theorem zl_82 (sb : Nat) : ∀ j, j < 82 → ct_ok zz_ctf zz_ctk sb j := ct_more (zl_81 sb) (ct_step zz_f zz_hf (zl_81 sb) rfl (by decide +kernel) (by decide +kernel) zs_81)
set_option maxRecDepth 100000 in
/-- cX9_waysToDraw() -/
theorem zs_82 : ai_shows zz_fnd zz_ctf zz_ctk zz_N ai_T ai_B1 20000 82 zz_f = true := by decide +kernel
theorem zl_83 (sb : Nat) : ∀ j, j < 83 → ct_ok zz_ctf zz_ctk sb j := ct_more (zl_82 sb) (ct_step zz_f zz_hf (zl_82 sb) rfl (by decide +kernel) (by decide +kernel) zs_82)
set_option maxRecDepth 100000 in
/-- cX9_doors(0,) -/
theorem zs_83 : ai_shows zz_fnd zz_ctf zz_ctk zz_N ai_T ai_B1 20000 83 zz_f = true := by decide +kernel
theorem zl_84 (sb : Nat) : ∀ j, j < 84 → ct_ok zz_ctf zz_ctk sb j := ct_more (zl_83 sb) (ct_step zz_f zz_hf (zl_83 sb) rfl (by decide +kernel) (by decide +kernel) zs_83)
set_option maxRecDepth 100000 in
/-- cX9_end(0,) -/
theorem zs_84 : ai_shows zz_fnd zz_ctf zz_ctk zz_N ai_T ai_B1 20000 84 zz_f = true := by decide +kernel
theorem zl_85 (sb : Nat) : ∀ j, j < 85 → ct_ok zz_ctf zz_ctk sb j := ct_more (zl_84 sb) (ct_step zz_f zz_hf (zl_84 sb) rfl (by decide +kernel) (by decide +kernel) zs_84)
set_option maxRecDepth 100000 in
/-- cX9_fault(0,) -/
theorem zs_85 : ai_shows zz_fnd zz_ctf zz_ctk zz_N ai_T ai_B1 20000 85 zz_f = true := by decide +kernel
theorem zl_86 (sb : Nat) : ∀ j, j < 86 → ct_ok zz_ctf zz_ctk sb j := ct_more (zl_85 sb) (ct_step zz_f zz_hf (zl_85 sb) rfl (by decide +kernel) (by decide +kernel) zs_85)
set_option maxRecDepth 100000 in
/-- cX9_feed(0,) -/
theorem zs_86 : ai_shows zz_fnd zz_ctf zz_ctk zz_N ai_T ai_B1 20000 86 zz_f = true := by decide +kernel
theorem zl_87 (sb : Nat) : ∀ j, j < 87 → ct_ok zz_ctf zz_ctk sb j := ct_more (zl_86 sb) (ct_step zz_f zz_hf (zl_86 sb) rfl (by decide +kernel) (by decide +kernel) zs_86)
set_option maxRecDepth 100000 in
/-- cX9_found(0,) -/
theorem zs_87 : ai_shows zz_fnd zz_ctf zz_ctk zz_N ai_T ai_B1 20000 87 zz_f = true := by decide +kernel
theorem zl_88 (sb : Nat) : ∀ j, j < 88 → ct_ok zz_ctf zz_ctk sb j := ct_more (zl_87 sb) (ct_step zz_f zz_hf (zl_87 sb) rfl (by decide +kernel) (by decide +kernel) zs_87)
set_option maxRecDepth 100000 in
/-- cX9_hand(0,) -/
theorem zs_88 : ai_shows zz_fnd zz_ctf zz_ctk zz_N ai_T ai_B1 20000 88 zz_f = true := by decide +kernel
theorem zl_89 (sb : Nat) : ∀ j, j < 89 → ct_ok zz_ctf zz_ctk sb j := ct_more (zl_88 sb) (ct_step zz_f zz_hf (zl_88 sb) rfl (by decide +kernel) (by decide +kernel) zs_88)

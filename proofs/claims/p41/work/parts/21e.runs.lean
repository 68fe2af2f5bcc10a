set_option maxRecDepth 100000 in
/-- cX9_held(0,) -/
theorem zs_89 : ai_shows zz_fnd zz_ctf zz_ctk zz_N ai_T ai_B1 20000 89 zz_f = true := by decide +kernel
theorem zl_90 (sb : Nat) : ∀ j, j < 90 → ct_ok zz_ctf zz_ctk sb j := ct_more (zl_89 sb) (ct_step zz_f zz_hf (zl_89 sb) rfl (by decide +kernel) (by decide +kernel) zs_89)
set_option maxRecDepth 100000 in
/-- cX9_keep(0,) -/
theorem zs_90 : ai_shows zz_fnd zz_ctf zz_ctk zz_N ai_T ai_B1 20000 90 zz_f = true := by decide +kernel
theorem zl_91 (sb : Nat) : ∀ j, j < 91 → ct_ok zz_ctf zz_ctk sb j := ct_more (zl_90 sb) (ct_step zz_f zz_hf (zl_90 sb) rfl (by decide +kernel) (by decide +kernel) zs_90)
set_option maxRecDepth 100000 in
/-- cX9_led(0,) -/
theorem zs_91 : ai_shows zz_fnd zz_ctf zz_ctk zz_N ai_T ai_B1 20000 91 zz_f = true := by decide +kernel
theorem zl_92 (sb : Nat) : ∀ j, j < 92 → ct_ok zz_ctf zz_ctk sb j := ct_more (zl_91 sb) (ct_step zz_f zz_hf (zl_91 sb) rfl (by decide +kernel) (by decide +kernel) zs_91)
set_option maxRecDepth 100000 in
/-- cX9_leg(0,) -/
theorem zs_92 : ai_shows zz_fnd zz_ctf zz_ctk zz_N ai_T ai_B1 20000 92 zz_f = true := by decide +kernel
theorem zl_93 (sb : Nat) : ∀ j, j < 93 → ct_ok zz_ctf zz_ctk sb j := ct_more (zl_92 sb) (ct_step zz_f zz_hf (zl_92 sb) rfl (by decide +kernel) (by decide +kernel) zs_92)
set_option maxRecDepth 100000 in
/-- cX9_like(0,) -/
theorem zs_93 : ai_shows zz_fnd zz_ctf zz_ctk zz_N ai_T ai_B1 20000 93 zz_f = true := by decide +kernel
theorem zl_94 (sb : Nat) : ∀ j, j < 94 → ct_ok zz_ctf zz_ctk sb j := ct_more (zl_93 sb) (ct_step zz_f zz_hf (zl_93 sb) rfl (by decide +kernel) (by decide +kernel) zs_93)
set_option maxRecDepth 100000 in
/-- cX9_moved(0,) -/
theorem zs_94 : ai_shows zz_fnd zz_ctf zz_ctk zz_N ai_T ai_B1 20000 94 zz_f = true := by decide +kernel
theorem zl_95 (sb : Nat) : ∀ j, j < 95 → ct_ok zz_ctf zz_ctk sb j := ct_more (zl_94 sb) (ct_step zz_f zz_hf (zl_94 sb) rfl (by decide +kernel) (by decide +kernel) zs_94)
set_option maxRecDepth 100000 in
/-- cX9_name(0,) -/
theorem zs_95 : ai_shows zz_fnd zz_ctf zz_ctk zz_N ai_T ai_B1 20000 95 zz_f = true := by decide +kernel
theorem zl_96 (sb : Nat) : ∀ j, j < 96 → ct_ok zz_ctf zz_ctk sb j := ct_more (zl_95 sb) (ct_step zz_f zz_hf (zl_95 sb) rfl (by decide +kernel) (by decide +kernel) zs_95)
set_option maxRecDepth 100000 in
/-- cX9_of(0,) -/
theorem zs_96 : ai_shows zz_fnd zz_ctf zz_ctk zz_N ai_T ai_B1 20000 96 zz_f = true := by decide +kernel
theorem zl_97 (sb : Nat) : ∀ j, j < 97 → ct_ok zz_ctf zz_ctk sb j := ct_more (zl_96 sb) (ct_step zz_f zz_hf (zl_96 sb) rfl (by decide +kernel) (by decide +kernel) zs_96)
set_option maxRecDepth 100000 in
/-- cX9_off(0,) -/
theorem zs_97 : ai_shows zz_fnd zz_ctf zz_ctk zz_N ai_T ai_B1 20000 97 zz_f = true := by decide +kernel
theorem zl_98 (sb : Nat) : ∀ j, j < 98 → ct_ok zz_ctf zz_ctk sb j := ct_more (zl_97 sb) (ct_step zz_f zz_hf (zl_97 sb) rfl (by decide +kernel) (by decide +kernel) zs_97)
set_option maxRecDepth 100000 in
/-- cX9_paper(0,) -/
theorem zs_98 : ai_shows zz_fnd zz_ctf zz_ctk zz_N ai_T ai_B1 20000 98 zz_f = true := by decide +kernel
theorem zl_99 (sb : Nat) : ∀ j, j < 99 → ct_ok zz_ctf zz_ctk sb j := ct_more (zl_98 sb) (ct_step zz_f zz_hf (zl_98 sb) rfl (by decide +kernel) (by decide +kernel) zs_98)
set_option maxRecDepth 100000 in
/-- cX9_place(0,) -/
theorem zs_99 : ai_shows zz_fnd zz_ctf zz_ctk zz_N ai_T ai_B1 20000 99 zz_f = true := by decide +kernel
theorem zl_100 (sb : Nat) : ∀ j, j < 100 → ct_ok zz_ctf zz_ctk sb j := ct_more (zl_99 sb) (ct_step zz_f zz_hf (zl_99 sb) rfl (by decide +kernel) (by decide +kernel) zs_99)
set_option maxRecDepth 100000 in
/-- cX9_row(0,) -/
theorem zs_100 : ai_shows zz_fnd zz_ctf zz_ctk zz_N ai_T ai_B1 20000 100 zz_f = true := by decide +kernel
theorem zl_101 (sb : Nat) : ∀ j, j < 101 → ct_ok zz_ctf zz_ctk sb j := ct_more (zl_100 sb) (ct_step zz_f zz_hf (zl_100 sb) rfl (by decide +kernel) (by decide +kernel) zs_100)

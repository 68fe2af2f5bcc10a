set_option maxRecDepth 100000 in
/-- cX9_seal(0,) -/
theorem zs_101 : ai_shows zz_fnd zz_ctf zz_ctk zz_N ai_T ai_B1 20000 101 zz_f = true := by decide +kernel
theorem zl_102 (sb : Nat) : ∀ j, j < 102 → ct_ok zz_ctf zz_ctk sb j := ct_more (zl_101 sb) (ct_step zz_f zz_hf (zl_101 sb) rfl (by decide +kernel) (by decide +kernel) zs_101)
set_option maxRecDepth 100000 in
/-- cX9_span(0,) -/
theorem zs_102 : ai_shows zz_fnd zz_ctf zz_ctk zz_N ai_T ai_B1 20000 102 zz_f = true := by decide +kernel
theorem zl_103 (sb : Nat) : ∀ j, j < 103 → ct_ok zz_ctf zz_ctk sb j := ct_more (zl_102 sb) (ct_step zz_f zz_hf (zl_102 sb) rfl (by decide +kernel) (by decide +kernel) zs_102)
set_option maxRecDepth 100000 in
/-- cX9_status(0,) -/
theorem zs_103 : ai_shows zz_fnd zz_ctf zz_ctk zz_N ai_T ai_B1 20000 103 zz_f = true := by decide +kernel
theorem zl_104 (sb : Nat) : ∀ j, j < 104 → ct_ok zz_ctf zz_ctk sb j := ct_more (zl_103 sb) (ct_step zz_f zz_hf (zl_103 sb) rfl (by decide +kernel) (by decide +kernel) zs_103)
set_option maxRecDepth 100000 in
/-- cX9_terms(0,) -/
theorem zs_104 : ai_shows zz_fnd zz_ctf zz_ctk zz_N ai_T ai_B1 20000 104 zz_f = true := by decide +kernel
theorem zl_105 (sb : Nat) : ∀ j, j < 105 → ct_ok zz_ctf zz_ctk sb j := ct_more (zl_104 sb) (ct_step zz_f zz_hf (zl_104 sb) rfl (by decide +kernel) (by decide +kernel) zs_104)
set_option maxRecDepth 100000 in
/-- cX9_wish(0,) -/
theorem zs_105 : ai_shows zz_fnd zz_ctf zz_ctk zz_N ai_T ai_B1 20000 105 zz_f = true := by decide +kernel
theorem zl_106 (sb : Nat) : ∀ j, j < 106 → ct_ok zz_ctf zz_ctk sb j := ct_more (zl_105 sb) (ct_step zz_f zz_hf (zl_105 sb) rfl (by decide +kernel) (by decide +kernel) zs_105)

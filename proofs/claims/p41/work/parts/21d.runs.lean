set_option maxRecDepth 100000 in
/-- cX3_readLevel(26, 4, 6) -/
theorem zs_54 : ai_shows zz_fnd zz_ctf zz_ctk zz_N ai_T ai_B1 20000 54 (zz_fr ([(197, 124), (195, 123), (199, 123), (191, 122)] ++ zz_bo)) = true := by decide +kernel
theorem zl_55 {sb : Nat} (ho : zz_open sb) : ∀ j, j < 55 → ct_ok zz_ctf zz_ctk sb j := ct_more (zl_54 ho) (ct_step (zz_fr ([(197, 124), (195, 123), (199, 123), (191, 122)] ++ zz_bo)) zz_hf (zl_54 ho) rfl (by decide +kernel) (by decide +kernel) zs_54)
set_option maxRecDepth 100000 in
/-- cX3_readLevel(26, 3, 6) -/
theorem zs_55 : ai_shows zz_fnd zz_ctf zz_ctk zz_N ai_T ai_B1 20000 55 (zz_fr ([(197, 132), (195, 131), (199, 131), (191, 130)] ++ zz_bo)) = true := by decide +kernel
theorem zl_56 {sb : Nat} (ho : zz_open sb) : ∀ j, j < 56 → ct_ok zz_ctf zz_ctk sb j := ct_more (zl_55 ho) (ct_step (zz_fr ([(197, 132), (195, 131), (199, 131), (191, 130)] ++ zz_bo)) zz_hf (zl_55 ho) rfl (by decide +kernel) (by decide +kernel) zs_55)
set_option maxRecDepth 100000 in
/-- cX3_readPlain(26, 6) -/
theorem zs_56 : ai_shows zz_fnd zz_ctf zz_ctk zz_N ai_T ai_B1 20000 56 (zz_fr ([(201, 138), (194, 137), (191, 137)] ++ zz_bo)) = true := by decide +kernel
theorem zl_57 {sb : Nat} (ho : zz_open sb) : ∀ j, j < 57 → ct_ok zz_ctf zz_ctk sb j := ct_more (zl_56 ho) (ct_step (zz_fr ([(201, 138), (194, 137), (191, 137)] ++ zz_bo)) zz_hf (zl_56 ho) rfl (by decide +kernel) (by decide +kernel) zs_56)
set_option maxRecDepth 100000 in
/-- cX3_readLevel(26, 2, 6) -/
theorem zs_57 : ai_shows zz_fnd zz_ctf zz_ctk zz_N ai_T ai_B1 20000 57 (zz_fr ([(197, 140), (195, 139), (199, 139), (191, 138)] ++ zz_bo)) = true := by decide +kernel
theorem zl_58 {sb : Nat} (ho : zz_open sb) : ∀ j, j < 58 → ct_ok zz_ctf zz_ctk sb j := ct_more (zl_57 ho) (ct_step (zz_fr ([(197, 140), (195, 139), (199, 139), (191, 138)] ++ zz_bo)) zz_hf (zl_57 ho) rfl (by decide +kernel) (by decide +kernel) zs_57)
set_option maxRecDepth 100000 in
/-- cX3_readLevel(26, 1, 6) -/
theorem zs_58 : ai_shows zz_fnd zz_ctf zz_ctk zz_N ai_T ai_B1 20000 58 (zz_fr ([(197, 148), (195, 147), (199, 147), (191, 146)] ++ zz_bo)) = true := by decide +kernel
theorem zl_59 {sb : Nat} (ho : zz_open sb) : ∀ j, j < 59 → ct_ok zz_ctf zz_ctk sb j := ct_more (zl_58 ho) (ct_step (zz_fr ([(197, 148), (195, 147), (199, 147), (191, 146)] ++ zz_bo)) zz_hf (zl_58 ho) rfl (by decide +kernel) (by decide +kernel) zs_58)
set_option maxRecDepth 100000 in
/-- cX3_readLevel(26, 0, 6) -/
theorem zs_59 : ai_shows zz_fnd zz_ctf zz_ctk zz_N ai_T ai_B1 20000 59 (zz_fr ([(197, 156), (195, 155), (199, 155), (191, 154)] ++ zz_bo)) = true := by decide +kernel
theorem zl_60 {sb : Nat} (ho : zz_open sb) : ∀ j, j < 60 → ct_ok zz_ctf zz_ctk sb j := ct_more (zl_59 ho) (ct_step (zz_fr ([(197, 156), (195, 155), (199, 155), (191, 154)] ++ zz_bo)) zz_hf (zl_59 ho) rfl (by decide +kernel) (by decide +kernel) zs_59)
set_option maxRecDepth 100000 in
/-- cX3_readLevel(26, 5, 5) -/
theorem zs_60 : ai_shows zz_fnd zz_ctf zz_ctk zz_N ai_T ai_B1 20000 60 (zz_fr ([(197, 164), (195, 163), (199, 163), (191, 162)] ++ zz_bo)) = true := by decide +kernel
theorem zl_61 {sb : Nat} (ho : zz_open sb) : ∀ j, j < 61 → ct_ok zz_ctf zz_ctk sb j := ct_more (zl_60 ho) (ct_step (zz_fr ([(197, 164), (195, 163), (199, 163), (191, 162)] ++ zz_bo)) zz_hf (zl_60 ho) rfl (by decide +kernel) (by decide +kernel) zs_60)
set_option maxRecDepth 100000 in
/-- cX3_readLevel(26, 4, 5) -/
theorem zs_61 : ai_shows zz_fnd zz_ctf zz_ctk zz_N ai_T ai_B1 20000 61 (zz_fr ([(197, 172), (195, 171), (199, 171), (191, 170)] ++ zz_bo)) = true := by decide +kernel
theorem zl_62 {sb : Nat} (ho : zz_open sb) : ∀ j, j < 62 → ct_ok zz_ctf zz_ctk sb j := ct_more (zl_61 ho) (ct_step (zz_fr ([(197, 172), (195, 171), (199, 171), (191, 170)] ++ zz_bo)) zz_hf (zl_61 ho) rfl (by decide +kernel) (by decide +kernel) zs_61)
set_option maxRecDepth 100000 in
/-- cX3_readLevel(26, 3, 5) -/
theorem zs_62 : ai_shows zz_fnd zz_ctf zz_ctk zz_N ai_T ai_B1 20000 62 (zz_fr ([(197, 180), (195, 179), (199, 179), (191, 178)] ++ zz_bo)) = true := by decide +kernel
theorem zl_63 {sb : Nat} (ho : zz_open sb) : ∀ j, j < 63 → ct_ok zz_ctf zz_ctk sb j := ct_more (zl_62 ho) (ct_step (zz_fr ([(197, 180), (195, 179), (199, 179), (191, 178)] ++ zz_bo)) zz_hf (zl_62 ho) rfl (by decide +kernel) (by decide +kernel) zs_62)
set_option maxRecDepth 100000 in
/-- cX3_readPlain(26, 5) -/
theorem zs_63 : ai_shows zz_fnd zz_ctf zz_ctk zz_N ai_T ai_B1 20000 63 (zz_fr ([(201, 186), (194, 185), (191, 185)] ++ zz_bo)) = true := by decide +kernel
theorem zl_64 {sb : Nat} (ho : zz_open sb) : ∀ j, j < 64 → ct_ok zz_ctf zz_ctk sb j := ct_more (zl_63 ho) (ct_step (zz_fr ([(201, 186), (194, 185), (191, 185)] ++ zz_bo)) zz_hf (zl_63 ho) rfl (by decide +kernel) (by decide +kernel) zs_63)

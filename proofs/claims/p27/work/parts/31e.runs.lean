set_option maxRecDepth 100000 in
/-- cX3_readLevel(26, 0, 6) -/
theorem zs_89 : ai_shows zz_fnd zz_ctf zz_ctk zz_N ai_T ai_B1 20000 89 (zz_fr ([(197, 156), (195, 155), (199, 155), (191, 154)] ++ zz_bo)) = true := by decide +kernel
theorem zl_90 {sb : ai_SB} (ho : zz_open sb) : ∀ j, j < 90 → ct_ok zz_ctf zz_ctk sb j := ct_more (zl_89 ho) (ct_step (zz_fr ([(197, 156), (195, 155), (199, 155), (191, 154)] ++ zz_bo)) zz_hf (zl_89 ho) rfl (by decide +kernel) (by decide +kernel) zs_89)
set_option maxRecDepth 100000 in
/-- cX3_readPlain(26, 5) -/
theorem zs_90 : ai_shows zz_fnd zz_ctf zz_ctk zz_N ai_T ai_B1 20000 90 (zz_fr ([(201, 186), (191, 185)] ++ zz_bo)) = true := by decide +kernel
theorem zl_91 {sb : ai_SB} (ho : zz_open sb) : ∀ j, j < 91 → ct_ok zz_ctf zz_ctk sb j := ct_more (zl_90 ho) (ct_step (zz_fr ([(201, 186), (191, 185)] ++ zz_bo)) zz_hf (zl_90 ho) rfl (by decide +kernel) (by decide +kernel) zs_90)
set_option maxRecDepth 100000 in
/-- cX3_readLevel(26, 2, 5) -/
theorem zs_91 : ai_shows zz_fnd zz_ctf zz_ctk zz_N ai_T ai_B1 20000 91 (zz_fr ([(197, 188), (195, 187), (199, 187), (191, 186)] ++ zz_bo)) = true := by decide +kernel
theorem zl_92 {sb : ai_SB} (ho : zz_open sb) : ∀ j, j < 92 → ct_ok zz_ctf zz_ctk sb j := ct_more (zl_91 ho) (ct_step (zz_fr ([(197, 188), (195, 187), (199, 187), (191, 186)] ++ zz_bo)) zz_hf (zl_91 ho) rfl (by decide +kernel) (by decide +kernel) zs_91)
set_option maxRecDepth 100000 in
/-- cX3_readLevel(26, 1, 5) -/
theorem zs_92 : ai_shows zz_fnd zz_ctf zz_ctk zz_N ai_T ai_B1 20000 92 (zz_fr ([(197, 196), (195, 195), (199, 195), (191, 194)] ++ zz_bo)) = true := by decide +kernel
theorem zl_93 {sb : ai_SB} (ho : zz_open sb) : ∀ j, j < 93 → ct_ok zz_ctf zz_ctk sb j := ct_more (zl_92 ho) (ct_step (zz_fr ([(197, 196), (195, 195), (199, 195), (191, 194)] ++ zz_bo)) zz_hf (zl_92 ho) rfl (by decide +kernel) (by decide +kernel) zs_92)
set_option maxRecDepth 100000 in
/-- cX3_readLevel(26, 0, 5) -/
theorem zs_93 : ai_shows zz_fnd zz_ctf zz_ctk zz_N ai_T ai_B1 20000 93 (zz_fr ([(197, 204), (195, 203), (199, 203), (191, 202)] ++ zz_bo)) = true := by decide +kernel
theorem zl_94 {sb : ai_SB} (ho : zz_open sb) : ∀ j, j < 94 → ct_ok zz_ctf zz_ctk sb j := ct_more (zl_93 ho) (ct_step (zz_fr ([(197, 204), (195, 203), (199, 203), (191, 202)] ++ zz_bo)) zz_hf (zl_93 ho) rfl (by decide +kernel) (by decide +kernel) zs_93)
set_option maxRecDepth 100000 in
/-- cX3_readPlain(26, 4) -/
theorem zs_94 : ai_shows zz_fnd zz_ctf zz_ctk zz_N ai_T ai_B1 20000 94 (zz_fr ([(201, 234), (191, 233)] ++ zz_bo)) = true := by decide +kernel
theorem zl_95 {sb : ai_SB} (ho : zz_open sb) : ∀ j, j < 95 → ct_ok zz_ctf zz_ctk sb j := ct_more (zl_94 ho) (ct_step (zz_fr ([(201, 234), (191, 233)] ++ zz_bo)) zz_hf (zl_94 ho) rfl (by decide +kernel) (by decide +kernel) zs_94)
set_option maxRecDepth 100000 in
/-- cX3_readLevel(26, 2, 4) -/
theorem zs_95 : ai_shows zz_fnd zz_ctf zz_ctk zz_N ai_T ai_B1 20000 95 (zz_fr ([(197, 236), (195, 235), (199, 235), (191, 234)] ++ zz_bo)) = true := by decide +kernel
theorem zl_96 {sb : ai_SB} (ho : zz_open sb) : ∀ j, j < 96 → ct_ok zz_ctf zz_ctk sb j := ct_more (zl_95 ho) (ct_step (zz_fr ([(197, 236), (195, 235), (199, 235), (191, 234)] ++ zz_bo)) zz_hf (zl_95 ho) rfl (by decide +kernel) (by decide +kernel) zs_95)
set_option maxRecDepth 100000 in
/-- cX3_readLevel(26, 1, 4) -/
theorem zs_96 : ai_shows zz_fnd zz_ctf zz_ctk zz_N ai_T ai_B1 20000 96 (zz_fr ([(197, 244), (195, 243), (199, 243), (191, 242)] ++ zz_bo)) = true := by decide +kernel
theorem zl_97 {sb : ai_SB} (ho : zz_open sb) : ∀ j, j < 97 → ct_ok zz_ctf zz_ctk sb j := ct_more (zl_96 ho) (ct_step (zz_fr ([(197, 244), (195, 243), (199, 243), (191, 242)] ++ zz_bo)) zz_hf (zl_96 ho) rfl (by decide +kernel) (by decide +kernel) zs_96)
set_option maxRecDepth 100000 in
/-- cX3_readLevel(26, 0, 4) -/
theorem zs_97 : ai_shows zz_fnd zz_ctf zz_ctk zz_N ai_T ai_B1 20000 97 (zz_fr ([(197, 252), (195, 251), (199, 251), (191, 250)] ++ zz_bo)) = true := by decide +kernel
theorem zl_98 {sb : ai_SB} (ho : zz_open sb) : ∀ j, j < 98 → ct_ok zz_ctf zz_ctk sb j := ct_more (zl_97 ho) (ct_step (zz_fr ([(197, 252), (195, 251), (199, 251), (191, 250)] ++ zz_bo)) zz_hf (zl_97 ho) rfl (by decide +kernel) (by decide +kernel) zs_97)
set_option maxRecDepth 100000 in
/-- cX3_readPlain(26, 3) -/
theorem zs_98 : ai_shows zz_fnd zz_ctf zz_ctk zz_N ai_T ai_B1 20000 98 (zz_fr ([(201, 282), (191, 281)] ++ zz_bo)) = true := by decide +kernel
theorem zl_99 {sb : ai_SB} (ho : zz_open sb) : ∀ j, j < 99 → ct_ok zz_ctf zz_ctk sb j := ct_more (zl_98 ho) (ct_step (zz_fr ([(201, 282), (191, 281)] ++ zz_bo)) zz_hf (zl_98 ho) rfl (by decide +kernel) (by decide +kernel) zs_98)
set_option maxRecDepth 100000 in
/-- cX3_readLevel(26, 2, 3) -/
theorem zs_99 : ai_shows zz_fnd zz_ctf zz_ctk zz_N ai_T ai_B1 20000 99 (zz_fr ([(197, 284), (195, 283), (199, 283), (191, 282)] ++ zz_bo)) = true := by decide +kernel
theorem zl_100 {sb : ai_SB} (ho : zz_open sb) : ∀ j, j < 100 → ct_ok zz_ctf zz_ctk sb j := ct_more (zl_99 ho) (ct_step (zz_fr ([(197, 284), (195, 283), (199, 283), (191, 282)] ++ zz_bo)) zz_hf (zl_99 ho) rfl (by decide +kernel) (by decide +kernel) zs_99)
set_option maxRecDepth 100000 in
/-- cX3_readLevel(26, 1, 3) -/
theorem zs_100 : ai_shows zz_fnd zz_ctf zz_ctk zz_N ai_T ai_B1 20000 100 (zz_fr ([(197, 292), (195, 291), (199, 291), (191, 290)] ++ zz_bo)) = true := by decide +kernel
theorem zl_101 {sb : ai_SB} (ho : zz_open sb) : ∀ j, j < 101 → ct_ok zz_ctf zz_ctk sb j := ct_more (zl_100 ho) (ct_step (zz_fr ([(197, 292), (195, 291), (199, 291), (191, 290)] ++ zz_bo)) zz_hf (zl_100 ho) rfl (by decide +kernel) (by decide +kernel) zs_100)
set_option maxRecDepth 100000 in
/-- cX3_readLevel(26, 0, 3) -/
theorem zs_101 : ai_shows zz_fnd zz_ctf zz_ctk zz_N ai_T ai_B1 20000 101 (zz_fr ([(197, 300), (195, 299), (199, 299), (191, 298)] ++ zz_bo)) = true := by decide +kernel
theorem zl_102 {sb : ai_SB} (ho : zz_open sb) : ∀ j, j < 102 → ct_ok zz_ctf zz_ctk sb j := ct_more (zl_101 ho) (ct_step (zz_fr ([(197, 300), (195, 299), (199, 299), (191, 298)] ++ zz_bo)) zz_hf (zl_101 ho) rfl (by decide +kernel) (by decide +kernel) zs_101)
set_option maxRecDepth 100000 in
/-- cX3_readPlain(26, 2) -/
theorem zs_102 : ai_shows zz_fnd zz_ctf zz_ctk zz_N ai_T ai_B1 20000 102 (zz_fr ([(201, 330), (191, 329)] ++ zz_bo)) = true := by decide +kernel
theorem zl_103 {sb : ai_SB} (ho : zz_open sb) : ∀ j, j < 103 → ct_ok zz_ctf zz_ctk sb j := ct_more (zl_102 ho) (ct_step (zz_fr ([(201, 330), (191, 329)] ++ zz_bo)) zz_hf (zl_102 ho) rfl (by decide +kernel) (by decide +kernel) zs_102)
set_option maxRecDepth 100000 in
/-- cX3_readLevel(26, 2, 2) -/
theorem zs_103 : ai_shows zz_fnd zz_ctf zz_ctk zz_N ai_T ai_B1 20000 103 (zz_fr ([(197, 332), (195, 331), (199, 331), (191, 330)] ++ zz_bo)) = true := by decide +kernel
theorem zl_104 {sb : ai_SB} (ho : zz_open sb) : ∀ j, j < 104 → ct_ok zz_ctf zz_ctk sb j := ct_more (zl_103 ho) (ct_step (zz_fr ([(197, 332), (195, 331), (199, 331), (191, 330)] ++ zz_bo)) zz_hf (zl_103 ho) rfl (by decide +kernel) (by decide +kernel) zs_103)
set_option maxRecDepth 100000 in
/-- cX3_readLevel(26, 1, 2) -/
theorem zs_104 : ai_shows zz_fnd zz_ctf zz_ctk zz_N ai_T ai_B1 20000 104 (zz_fr ([(197, 340), (195, 339), (199, 339), (191, 338)] ++ zz_bo)) = true := by decide +kernel
theorem zl_105 {sb : ai_SB} (ho : zz_open sb) : ∀ j, j < 105 → ct_ok zz_ctf zz_ctk sb j := ct_more (zl_104 ho) (ct_step (zz_fr ([(197, 340), (195, 339), (199, 339), (191, 338)] ++ zz_bo)) zz_hf (zl_104 ho) rfl (by decide +kernel) (by decide +kernel) zs_104)

set_option maxRecDepth 100000 in
/-- cX3_readLevel(26, 2, 2) -/
theorem zs_85 : ai_shows zz_fnd zz_ctf zz_ctk zz_N ai_T ai_B1 20000 85 (zz_fr ([(197, 332), (195, 331), (199, 331), (191, 330)] ++ zz_bo)) = true := by decide +kernel
theorem zl_86 {sb : Nat} (ho : zz_open sb) : ∀ j, j < 86 → ct_ok zz_ctf zz_ctk sb j := ct_more (zl_85 ho) (ct_step (zz_fr ([(197, 332), (195, 331), (199, 331), (191, 330)] ++ zz_bo)) zz_hf (zl_85 ho) rfl (by decide +kernel) (by decide +kernel) zs_85)
set_option maxRecDepth 100000 in
/-- cX3_readLevel(26, 1, 2) -/
theorem zs_86 : ai_shows zz_fnd zz_ctf zz_ctk zz_N ai_T ai_B1 20000 86 (zz_fr ([(197, 340), (195, 339), (199, 339), (191, 338)] ++ zz_bo)) = true := by decide +kernel
theorem zl_87 {sb : Nat} (ho : zz_open sb) : ∀ j, j < 87 → ct_ok zz_ctf zz_ctk sb j := ct_more (zl_86 ho) (ct_step (zz_fr ([(197, 340), (195, 339), (199, 339), (191, 338)] ++ zz_bo)) zz_hf (zl_86 ho) rfl (by decide +kernel) (by decide +kernel) zs_86)
set_option maxRecDepth 100000 in
/-- cX3_readLevel(26, 0, 2) -/
theorem zs_87 : ai_shows zz_fnd zz_ctf zz_ctk zz_N ai_T ai_B1 20000 87 (zz_fr ([(197, 348), (195, 347), (199, 347), (191, 346)] ++ zz_bo)) = true := by decide +kernel
theorem zl_88 {sb : Nat} (ho : zz_open sb) : ∀ j, j < 88 → ct_ok zz_ctf zz_ctk sb j := ct_more (zl_87 ho) (ct_step (zz_fr ([(197, 348), (195, 347), (199, 347), (191, 346)] ++ zz_bo)) zz_hf (zl_87 ho) rfl (by decide +kernel) (by decide +kernel) zs_87)
set_option maxRecDepth 100000 in
/-- cX3_readLevel(26, 5, 1) -/
theorem zs_88 : ai_shows zz_fnd zz_ctf zz_ctk zz_N ai_T ai_B1 20000 88 (zz_fr ([(197, 356), (195, 355), (199, 355), (191, 354)] ++ zz_bo)) = true := by decide +kernel
theorem zl_89 {sb : Nat} (ho : zz_open sb) : ∀ j, j < 89 → ct_ok zz_ctf zz_ctk sb j := ct_more (zl_88 ho) (ct_step (zz_fr ([(197, 356), (195, 355), (199, 355), (191, 354)] ++ zz_bo)) zz_hf (zl_88 ho) rfl (by decide +kernel) (by decide +kernel) zs_88)
set_option maxRecDepth 100000 in
/-- cX3_readLevel(26, 4, 1) -/
theorem zs_89 : ai_shows zz_fnd zz_ctf zz_ctk zz_N ai_T ai_B1 20000 89 (zz_fr ([(197, 364), (195, 363), (199, 363), (191, 362)] ++ zz_bo)) = true := by decide +kernel
theorem zl_90 {sb : Nat} (ho : zz_open sb) : ∀ j, j < 90 → ct_ok zz_ctf zz_ctk sb j := ct_more (zl_89 ho) (ct_step (zz_fr ([(197, 364), (195, 363), (199, 363), (191, 362)] ++ zz_bo)) zz_hf (zl_89 ho) rfl (by decide +kernel) (by decide +kernel) zs_89)
set_option maxRecDepth 100000 in
/-- cX3_readLevel(26, 3, 1) -/
theorem zs_90 : ai_shows zz_fnd zz_ctf zz_ctk zz_N ai_T ai_B1 20000 90 (zz_fr ([(197, 372), (195, 371), (199, 371), (191, 370)] ++ zz_bo)) = true := by decide +kernel
theorem zl_91 {sb : Nat} (ho : zz_open sb) : ∀ j, j < 91 → ct_ok zz_ctf zz_ctk sb j := ct_more (zl_90 ho) (ct_step (zz_fr ([(197, 372), (195, 371), (199, 371), (191, 370)] ++ zz_bo)) zz_hf (zl_90 ho) rfl (by decide +kernel) (by decide +kernel) zs_90)
set_option maxRecDepth 100000 in
/-- cX3_readPlain(26, 1) -/
theorem zs_91 : ai_shows zz_fnd zz_ctf zz_ctk zz_N ai_T ai_B1 20000 91 (zz_fr ([(201, 378), (194, 377), (191, 377)] ++ zz_bo)) = true := by decide +kernel
theorem zl_92 {sb : Nat} (ho : zz_open sb) : ∀ j, j < 92 → ct_ok zz_ctf zz_ctk sb j := ct_more (zl_91 ho) (ct_step (zz_fr ([(201, 378), (194, 377), (191, 377)] ++ zz_bo)) zz_hf (zl_91 ho) rfl (by decide +kernel) (by decide +kernel) zs_91)
set_option maxRecDepth 100000 in
/-- cX3_readLevel(26, 2, 1) -/
theorem zs_92 : ai_shows zz_fnd zz_ctf zz_ctk zz_N ai_T ai_B1 20000 92 (zz_fr ([(197, 380), (195, 379), (199, 379), (191, 378)] ++ zz_bo)) = true := by decide +kernel
theorem zl_93 {sb : Nat} (ho : zz_open sb) : ∀ j, j < 93 → ct_ok zz_ctf zz_ctk sb j := ct_more (zl_92 ho) (ct_step (zz_fr ([(197, 380), (195, 379), (199, 379), (191, 378)] ++ zz_bo)) zz_hf (zl_92 ho) rfl (by decide +kernel) (by decide +kernel) zs_92)
set_option maxRecDepth 100000 in
/-- cX3_readLevel(26, 1, 1) -/
theorem zs_93 : ai_shows zz_fnd zz_ctf zz_ctk zz_N ai_T ai_B1 20000 93 (zz_fr ([(197, 388), (195, 387), (199, 387), (191, 386)] ++ zz_bo)) = true := by decide +kernel
theorem zl_94 {sb : Nat} (ho : zz_open sb) : ∀ j, j < 94 → ct_ok zz_ctf zz_ctk sb j := ct_more (zl_93 ho) (ct_step (zz_fr ([(197, 388), (195, 387), (199, 387), (191, 386)] ++ zz_bo)) zz_hf (zl_93 ho) rfl (by decide +kernel) (by decide +kernel) zs_93)
set_option maxRecDepth 100000 in
/-- cX3_readLevel(26, 0, 1) -/
theorem zs_94 : ai_shows zz_fnd zz_ctf zz_ctk zz_N ai_T ai_B1 20000 94 (zz_fr ([(197, 396), (195, 395), (199, 395), (191, 394)] ++ zz_bo)) = true := by decide +kernel
theorem zl_95 {sb : Nat} (ho : zz_open sb) : ∀ j, j < 95 → ct_ok zz_ctf zz_ctk sb j := ct_more (zl_94 ho) (ct_step (zz_fr ([(197, 396), (195, 395), (199, 395), (191, 394)] ++ zz_bo)) zz_hf (zl_94 ho) rfl (by decide +kernel) (by decide +kernel) zs_94)
set_option maxRecDepth 100000 in
/-- cX3_readLevel(26, 5, 0) -/
theorem zs_95 : ai_shows zz_fnd zz_ctf zz_ctk zz_N ai_T ai_B1 20000 95 (zz_fr ([(197, 404), (195, 403), (199, 403), (191, 402)] ++ zz_bo)) = true := by decide +kernel
theorem zl_96 {sb : Nat} (ho : zz_open sb) : ∀ j, j < 96 → ct_ok zz_ctf zz_ctk sb j := ct_more (zl_95 ho) (ct_step (zz_fr ([(197, 404), (195, 403), (199, 403), (191, 402)] ++ zz_bo)) zz_hf (zl_95 ho) rfl (by decide +kernel) (by decide +kernel) zs_95)

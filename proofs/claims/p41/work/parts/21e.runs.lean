set_option maxRecDepth 100000 in
/-- cX3_readLevel(26, 2, 5) -/
theorem zs_64 : ai_shows zz_fnd zz_ctf zz_ctk zz_N ai_T ai_B1 20000 64 (zz_fr ([(197, 188), (195, 187), (199, 187), (191, 186)] ++ zz_bo)) = true := by decide +kernel
theorem zl_65 {sb : Nat} (ho : zz_open sb) : ∀ j, j < 65 → ct_ok zz_ctf zz_ctk sb j := ct_more (zl_64 ho) (ct_step (zz_fr ([(197, 188), (195, 187), (199, 187), (191, 186)] ++ zz_bo)) zz_hf (zl_64 ho) rfl (by decide +kernel) (by decide +kernel) zs_64)
set_option maxRecDepth 100000 in
/-- cX3_readLevel(26, 1, 5) -/
theorem zs_65 : ai_shows zz_fnd zz_ctf zz_ctk zz_N ai_T ai_B1 20000 65 (zz_fr ([(197, 196), (195, 195), (199, 195), (191, 194)] ++ zz_bo)) = true := by decide +kernel
theorem zl_66 {sb : Nat} (ho : zz_open sb) : ∀ j, j < 66 → ct_ok zz_ctf zz_ctk sb j := ct_more (zl_65 ho) (ct_step (zz_fr ([(197, 196), (195, 195), (199, 195), (191, 194)] ++ zz_bo)) zz_hf (zl_65 ho) rfl (by decide +kernel) (by decide +kernel) zs_65)
set_option maxRecDepth 100000 in
/-- cX3_readLevel(26, 0, 5) -/
theorem zs_66 : ai_shows zz_fnd zz_ctf zz_ctk zz_N ai_T ai_B1 20000 66 (zz_fr ([(197, 204), (195, 203), (199, 203), (191, 202)] ++ zz_bo)) = true := by decide +kernel
theorem zl_67 {sb : Nat} (ho : zz_open sb) : ∀ j, j < 67 → ct_ok zz_ctf zz_ctk sb j := ct_more (zl_66 ho) (ct_step (zz_fr ([(197, 204), (195, 203), (199, 203), (191, 202)] ++ zz_bo)) zz_hf (zl_66 ho) rfl (by decide +kernel) (by decide +kernel) zs_66)
set_option maxRecDepth 100000 in
/-- cX3_readLevel(26, 5, 4) -/
theorem zs_67 : ai_shows zz_fnd zz_ctf zz_ctk zz_N ai_T ai_B1 20000 67 (zz_fr ([(197, 212), (195, 211), (199, 211), (191, 210)] ++ zz_bo)) = true := by decide +kernel
theorem zl_68 {sb : Nat} (ho : zz_open sb) : ∀ j, j < 68 → ct_ok zz_ctf zz_ctk sb j := ct_more (zl_67 ho) (ct_step (zz_fr ([(197, 212), (195, 211), (199, 211), (191, 210)] ++ zz_bo)) zz_hf (zl_67 ho) rfl (by decide +kernel) (by decide +kernel) zs_67)
set_option maxRecDepth 100000 in
/-- cX3_readLevel(26, 4, 4) -/
theorem zs_68 : ai_shows zz_fnd zz_ctf zz_ctk zz_N ai_T ai_B1 20000 68 (zz_fr ([(197, 220), (195, 219), (199, 219), (191, 218)] ++ zz_bo)) = true := by decide +kernel
theorem zl_69 {sb : Nat} (ho : zz_open sb) : ∀ j, j < 69 → ct_ok zz_ctf zz_ctk sb j := ct_more (zl_68 ho) (ct_step (zz_fr ([(197, 220), (195, 219), (199, 219), (191, 218)] ++ zz_bo)) zz_hf (zl_68 ho) rfl (by decide +kernel) (by decide +kernel) zs_68)
set_option maxRecDepth 100000 in
/-- cX3_readLevel(26, 3, 4) -/
theorem zs_69 : ai_shows zz_fnd zz_ctf zz_ctk zz_N ai_T ai_B1 20000 69 (zz_fr ([(197, 228), (195, 227), (199, 227), (191, 226)] ++ zz_bo)) = true := by decide +kernel
theorem zl_70 {sb : Nat} (ho : zz_open sb) : ∀ j, j < 70 → ct_ok zz_ctf zz_ctk sb j := ct_more (zl_69 ho) (ct_step (zz_fr ([(197, 228), (195, 227), (199, 227), (191, 226)] ++ zz_bo)) zz_hf (zl_69 ho) rfl (by decide +kernel) (by decide +kernel) zs_69)
set_option maxRecDepth 100000 in
/-- cX3_readPlain(26, 4) -/
theorem zs_70 : ai_shows zz_fnd zz_ctf zz_ctk zz_N ai_T ai_B1 20000 70 (zz_fr ([(201, 234), (194, 233), (191, 233)] ++ zz_bo)) = true := by decide +kernel
theorem zl_71 {sb : Nat} (ho : zz_open sb) : ∀ j, j < 71 → ct_ok zz_ctf zz_ctk sb j := ct_more (zl_70 ho) (ct_step (zz_fr ([(201, 234), (194, 233), (191, 233)] ++ zz_bo)) zz_hf (zl_70 ho) rfl (by decide +kernel) (by decide +kernel) zs_70)
set_option maxRecDepth 100000 in
/-- cX3_readLevel(26, 2, 4) -/
theorem zs_71 : ai_shows zz_fnd zz_ctf zz_ctk zz_N ai_T ai_B1 20000 71 (zz_fr ([(197, 236), (195, 235), (199, 235), (191, 234)] ++ zz_bo)) = true := by decide +kernel
theorem zl_72 {sb : Nat} (ho : zz_open sb) : ∀ j, j < 72 → ct_ok zz_ctf zz_ctk sb j := ct_more (zl_71 ho) (ct_step (zz_fr ([(197, 236), (195, 235), (199, 235), (191, 234)] ++ zz_bo)) zz_hf (zl_71 ho) rfl (by decide +kernel) (by decide +kernel) zs_71)
set_option maxRecDepth 100000 in
/-- cX3_readLevel(26, 1, 4) -/
theorem zs_72 : ai_shows zz_fnd zz_ctf zz_ctk zz_N ai_T ai_B1 20000 72 (zz_fr ([(197, 244), (195, 243), (199, 243), (191, 242)] ++ zz_bo)) = true := by decide +kernel
theorem zl_73 {sb : Nat} (ho : zz_open sb) : ∀ j, j < 73 → ct_ok zz_ctf zz_ctk sb j := ct_more (zl_72 ho) (ct_step (zz_fr ([(197, 244), (195, 243), (199, 243), (191, 242)] ++ zz_bo)) zz_hf (zl_72 ho) rfl (by decide +kernel) (by decide +kernel) zs_72)
set_option maxRecDepth 100000 in
/-- cX3_readLevel(26, 0, 4) -/
theorem zs_73 : ai_shows zz_fnd zz_ctf zz_ctk zz_N ai_T ai_B1 20000 73 (zz_fr ([(197, 252), (195, 251), (199, 251), (191, 250)] ++ zz_bo)) = true := by decide +kernel
theorem zl_74 {sb : Nat} (ho : zz_open sb) : ∀ j, j < 74 → ct_ok zz_ctf zz_ctk sb j := ct_more (zl_73 ho) (ct_step (zz_fr ([(197, 252), (195, 251), (199, 251), (191, 250)] ++ zz_bo)) zz_hf (zl_73 ho) rfl (by decide +kernel) (by decide +kernel) zs_73)
set_option maxRecDepth 100000 in
/-- cX3_readLevel(26, 5, 3) -/
theorem zs_74 : ai_shows zz_fnd zz_ctf zz_ctk zz_N ai_T ai_B1 20000 74 (zz_fr ([(197, 260), (195, 259), (199, 259), (191, 258)] ++ zz_bo)) = true := by decide +kernel
theorem zl_75 {sb : Nat} (ho : zz_open sb) : ∀ j, j < 75 → ct_ok zz_ctf zz_ctk sb j := ct_more (zl_74 ho) (ct_step (zz_fr ([(197, 260), (195, 259), (199, 259), (191, 258)] ++ zz_bo)) zz_hf (zl_74 ho) rfl (by decide +kernel) (by decide +kernel) zs_74)

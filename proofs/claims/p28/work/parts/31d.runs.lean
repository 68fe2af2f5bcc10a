set_option maxRecDepth 100000 in
/-- cX3_readLevel(26, 5, 2) -/
theorem zs_60 : ai_shows zz_fnd zz_ctf zz_ctk zz_N ai_T ai_B1 20000 60 (zz_fr ([(197, 308), (195, 307), (199, 307), (191, 306)] ++ zz_bo)) = true := by decide +kernel
theorem zl_61 {sb : ai_SB} (ho : zz_open sb) : ∀ j, j < 61 → ct_ok zz_ctf zz_ctk sb j := ct_more (zl_60 ho) (ct_step (zz_fr ([(197, 308), (195, 307), (199, 307), (191, 306)] ++ zz_bo)) zz_hf (zl_60 ho) rfl (by decide +kernel) (by decide +kernel) zs_60)
set_option maxRecDepth 100000 in
/-- cX3_readLevel(26, 4, 2) -/
theorem zs_61 : ai_shows zz_fnd zz_ctf zz_ctk zz_N ai_T ai_B1 20000 61 (zz_fr ([(197, 316), (195, 315), (199, 315), (191, 314)] ++ zz_bo)) = true := by decide +kernel
theorem zl_62 {sb : ai_SB} (ho : zz_open sb) : ∀ j, j < 62 → ct_ok zz_ctf zz_ctk sb j := ct_more (zl_61 ho) (ct_step (zz_fr ([(197, 316), (195, 315), (199, 315), (191, 314)] ++ zz_bo)) zz_hf (zl_61 ho) rfl (by decide +kernel) (by decide +kernel) zs_61)
set_option maxRecDepth 100000 in
/-- cX3_readLevel(26, 3, 2) -/
theorem zs_62 : ai_shows zz_fnd zz_ctf zz_ctk zz_N ai_T ai_B1 20000 62 (zz_fr ([(197, 324), (195, 323), (199, 323), (191, 322)] ++ zz_bo)) = true := by decide +kernel
theorem zl_63 {sb : ai_SB} (ho : zz_open sb) : ∀ j, j < 63 → ct_ok zz_ctf zz_ctk sb j := ct_more (zl_62 ho) (ct_step (zz_fr ([(197, 324), (195, 323), (199, 323), (191, 322)] ++ zz_bo)) zz_hf (zl_62 ho) rfl (by decide +kernel) (by decide +kernel) zs_62)
set_option maxRecDepth 100000 in
/-- cX3_readLevel(26, 5, 1) -/
theorem zs_63 : ai_shows zz_fnd zz_ctf zz_ctk zz_N ai_T ai_B1 20000 63 (zz_fr ([(197, 356), (195, 355), (199, 355), (191, 354)] ++ zz_bo)) = true := by decide +kernel
theorem zl_64 {sb : ai_SB} (ho : zz_open sb) : ∀ j, j < 64 → ct_ok zz_ctf zz_ctk sb j := ct_more (zl_63 ho) (ct_step (zz_fr ([(197, 356), (195, 355), (199, 355), (191, 354)] ++ zz_bo)) zz_hf (zl_63 ho) rfl (by decide +kernel) (by decide +kernel) zs_63)
set_option maxRecDepth 100000 in
/-- cX3_readLevel(26, 4, 1) -/
theorem zs_64 : ai_shows zz_fnd zz_ctf zz_ctk zz_N ai_T ai_B1 20000 64 (zz_fr ([(197, 364), (195, 363), (199, 363), (191, 362)] ++ zz_bo)) = true := by decide +kernel
theorem zl_65 {sb : ai_SB} (ho : zz_open sb) : ∀ j, j < 65 → ct_ok zz_ctf zz_ctk sb j := ct_more (zl_64 ho) (ct_step (zz_fr ([(197, 364), (195, 363), (199, 363), (191, 362)] ++ zz_bo)) zz_hf (zl_64 ho) rfl (by decide +kernel) (by decide +kernel) zs_64)
set_option maxRecDepth 100000 in
/-- cX3_readLevel(26, 3, 1) -/
theorem zs_65 : ai_shows zz_fnd zz_ctf zz_ctk zz_N ai_T ai_B1 20000 65 (zz_fr ([(197, 372), (195, 371), (199, 371), (191, 370)] ++ zz_bo)) = true := by decide +kernel
theorem zl_66 {sb : ai_SB} (ho : zz_open sb) : ∀ j, j < 66 → ct_ok zz_ctf zz_ctk sb j := ct_more (zl_65 ho) (ct_step (zz_fr ([(197, 372), (195, 371), (199, 371), (191, 370)] ++ zz_bo)) zz_hf (zl_65 ho) rfl (by decide +kernel) (by decide +kernel) zs_65)
set_option maxRecDepth 100000 in
/-- cX3_readLevel(26, 5, 0) -/
theorem zs_66 : ai_shows zz_fnd zz_ctf zz_ctk zz_N ai_T ai_B1 20000 66 (zz_fr ([(197, 404), (195, 403), (199, 403), (191, 402)] ++ zz_bo)) = true := by decide +kernel
theorem zl_67 {sb : ai_SB} (ho : zz_open sb) : ∀ j, j < 67 → ct_ok zz_ctf zz_ctk sb j := ct_more (zl_66 ho) (ct_step (zz_fr ([(197, 404), (195, 403), (199, 403), (191, 402)] ++ zz_bo)) zz_hf (zl_66 ho) rfl (by decide +kernel) (by decide +kernel) zs_66)
set_option maxRecDepth 100000 in
/-- cX3_readLevel(26, 4, 0) -/
theorem zs_67 : ai_shows zz_fnd zz_ctf zz_ctk zz_N ai_T ai_B1 20000 67 (zz_fr ([(197, 412), (195, 411), (199, 411), (191, 410)] ++ zz_bo)) = true := by decide +kernel
theorem zl_68 {sb : ai_SB} (ho : zz_open sb) : ∀ j, j < 68 → ct_ok zz_ctf zz_ctk sb j := ct_more (zl_67 ho) (ct_step (zz_fr ([(197, 412), (195, 411), (199, 411), (191, 410)] ++ zz_bo)) zz_hf (zl_67 ho) rfl (by decide +kernel) (by decide +kernel) zs_67)
set_option maxRecDepth 100000 in
/-- cX3_readLevel(26, 3, 0) -/
theorem zs_68 : ai_shows zz_fnd zz_ctf zz_ctk zz_N ai_T ai_B1 20000 68 (zz_fr ([(197, 420), (195, 419), (199, 419), (191, 418)] ++ zz_bo)) = true := by decide +kernel
theorem zl_69 {sb : ai_SB} (ho : zz_open sb) : ∀ j, j < 69 → ct_ok zz_ctf zz_ctk sb j := ct_more (zl_68 ho) (ct_step (zz_fr ([(197, 420), (195, 419), (199, 419), (191, 418)] ++ zz_bo)) zz_hf (zl_68 ho) rfl (by decide +kernel) (by decide +kernel) zs_68)
set_option maxRecDepth 100000 in
/-- cX3_readCompared(26, 0) -/
theorem zs_69 : ai_shows zz_fnd zz_ctf zz_ctk zz_N ai_T ai_B1 20000 69 (zz_fr ([(194, 424)] ++ zz_bo)) = true := by decide +kernel
theorem zl_70 {sb : ai_SB} (ho : zz_open sb) : ∀ j, j < 70 → ct_ok zz_ctf zz_ctk sb j := ct_more (zl_69 ho) (ct_step (zz_fr ([(194, 424)] ++ zz_bo)) zz_hf (zl_69 ho) rfl (by decide +kernel) (by decide +kernel) zs_69)
set_option maxRecDepth 100000 in
/-- cX3_readCompared(26, 1) -/
theorem zs_70 : ai_shows zz_fnd zz_ctf zz_ctk zz_N ai_T ai_B1 20000 70 (zz_fr ([(194, 376)] ++ zz_bo)) = true := by decide +kernel
theorem zl_71 {sb : ai_SB} (ho : zz_open sb) : ∀ j, j < 71 → ct_ok zz_ctf zz_ctk sb j := ct_more (zl_70 ho) (ct_step (zz_fr ([(194, 376)] ++ zz_bo)) zz_hf (zl_70 ho) rfl (by decide +kernel) (by decide +kernel) zs_70)
set_option maxRecDepth 100000 in
/-- cX3_readCompared(26, 2) -/
theorem zs_71 : ai_shows zz_fnd zz_ctf zz_ctk zz_N ai_T ai_B1 20000 71 (zz_fr ([(194, 328)] ++ zz_bo)) = true := by decide +kernel
theorem zl_72 {sb : ai_SB} (ho : zz_open sb) : ∀ j, j < 72 → ct_ok zz_ctf zz_ctk sb j := ct_more (zl_71 ho) (ct_step (zz_fr ([(194, 328)] ++ zz_bo)) zz_hf (zl_71 ho) rfl (by decide +kernel) (by decide +kernel) zs_71)
set_option maxRecDepth 100000 in
/-- cX3_readCompared(26, 3) -/
theorem zs_72 : ai_shows zz_fnd zz_ctf zz_ctk zz_N ai_T ai_B1 20000 72 (zz_fr ([(194, 280)] ++ zz_bo)) = true := by decide +kernel
theorem zl_73 {sb : ai_SB} (ho : zz_open sb) : ∀ j, j < 73 → ct_ok zz_ctf zz_ctk sb j := ct_more (zl_72 ho) (ct_step (zz_fr ([(194, 280)] ++ zz_bo)) zz_hf (zl_72 ho) rfl (by decide +kernel) (by decide +kernel) zs_72)
set_option maxRecDepth 100000 in
/-- cX3_readCompared(26, 4) -/
theorem zs_73 : ai_shows zz_fnd zz_ctf zz_ctk zz_N ai_T ai_B1 20000 73 (zz_fr ([(194, 232)] ++ zz_bo)) = true := by decide +kernel
theorem zl_74 {sb : ai_SB} (ho : zz_open sb) : ∀ j, j < 74 → ct_ok zz_ctf zz_ctk sb j := ct_more (zl_73 ho) (ct_step (zz_fr ([(194, 232)] ++ zz_bo)) zz_hf (zl_73 ho) rfl (by decide +kernel) (by decide +kernel) zs_73)
set_option maxRecDepth 100000 in
/-- cX3_readCompared(26, 5) -/
theorem zs_74 : ai_shows zz_fnd zz_ctf zz_ctk zz_N ai_T ai_B1 20000 74 (zz_fr ([(194, 184)] ++ zz_bo)) = true := by decide +kernel
theorem zl_75 {sb : ai_SB} (ho : zz_open sb) : ∀ j, j < 75 → ct_ok zz_ctf zz_ctk sb j := ct_more (zl_74 ho) (ct_step (zz_fr ([(194, 184)] ++ zz_bo)) zz_hf (zl_74 ho) rfl (by decide +kernel) (by decide +kernel) zs_74)
set_option maxRecDepth 100000 in
/-- cX3_readCompared(26, 6) -/
theorem zs_75 : ai_shows zz_fnd zz_ctf zz_ctk zz_N ai_T ai_B1 20000 75 (zz_fr ([(194, 136)] ++ zz_bo)) = true := by decide +kernel
theorem zl_76 {sb : ai_SB} (ho : zz_open sb) : ∀ j, j < 76 → ct_ok zz_ctf zz_ctk sb j := ct_more (zl_75 ho) (ct_step (zz_fr ([(194, 136)] ++ zz_bo)) zz_hf (zl_75 ho) rfl (by decide +kernel) (by decide +kernel) zs_75)

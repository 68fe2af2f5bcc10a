set_option maxRecDepth 100000 in
/-- cX3_readLevel(26, 4, 5) -/
theorem zs_52 : ai_shows zz_fnd zz_ctf zz_ctk zz_N ai_T ai_B1 20000 52 (zz_fr ([(197, 172), (195, 171), (199, 171), (191, 170)] ++ zz_bo)) = true := by decide +kernel
theorem zl_53 {sb : ai_SB} (ho : zz_open sb) : ∀ j, j < 53 → ct_ok zz_ctf zz_ctk sb j := ct_more (zl_52 ho) (ct_step (zz_fr ([(197, 172), (195, 171), (199, 171), (191, 170)] ++ zz_bo)) zz_hf (zl_52 ho) rfl (by decide +kernel) (by decide +kernel) zs_52)
set_option maxRecDepth 100000 in
/-- cX3_readLevel(26, 3, 5) -/
theorem zs_53 : ai_shows zz_fnd zz_ctf zz_ctk zz_N ai_T ai_B1 20000 53 (zz_fr ([(197, 180), (195, 179), (199, 179), (191, 178)] ++ zz_bo)) = true := by decide +kernel
theorem zl_54 {sb : ai_SB} (ho : zz_open sb) : ∀ j, j < 54 → ct_ok zz_ctf zz_ctk sb j := ct_more (zl_53 ho) (ct_step (zz_fr ([(197, 180), (195, 179), (199, 179), (191, 178)] ++ zz_bo)) zz_hf (zl_53 ho) rfl (by decide +kernel) (by decide +kernel) zs_53)
set_option maxRecDepth 100000 in
/-- cX3_readLevel(26, 5, 4) -/
theorem zs_54 : ai_shows zz_fnd zz_ctf zz_ctk zz_N ai_T ai_B1 20000 54 (zz_fr ([(197, 212), (195, 211), (199, 211), (191, 210)] ++ zz_bo)) = true := by decide +kernel
theorem zl_55 {sb : ai_SB} (ho : zz_open sb) : ∀ j, j < 55 → ct_ok zz_ctf zz_ctk sb j := ct_more (zl_54 ho) (ct_step (zz_fr ([(197, 212), (195, 211), (199, 211), (191, 210)] ++ zz_bo)) zz_hf (zl_54 ho) rfl (by decide +kernel) (by decide +kernel) zs_54)
set_option maxRecDepth 100000 in
/-- cX3_readLevel(26, 4, 4) -/
theorem zs_55 : ai_shows zz_fnd zz_ctf zz_ctk zz_N ai_T ai_B1 20000 55 (zz_fr ([(197, 220), (195, 219), (199, 219), (191, 218)] ++ zz_bo)) = true := by decide +kernel
theorem zl_56 {sb : ai_SB} (ho : zz_open sb) : ∀ j, j < 56 → ct_ok zz_ctf zz_ctk sb j := ct_more (zl_55 ho) (ct_step (zz_fr ([(197, 220), (195, 219), (199, 219), (191, 218)] ++ zz_bo)) zz_hf (zl_55 ho) rfl (by decide +kernel) (by decide +kernel) zs_55)
set_option maxRecDepth 100000 in
/-- cX3_readLevel(26, 3, 4) -/
theorem zs_56 : ai_shows zz_fnd zz_ctf zz_ctk zz_N ai_T ai_B1 20000 56 (zz_fr ([(197, 228), (195, 227), (199, 227), (191, 226)] ++ zz_bo)) = true := by decide +kernel
theorem zl_57 {sb : ai_SB} (ho : zz_open sb) : ∀ j, j < 57 → ct_ok zz_ctf zz_ctk sb j := ct_more (zl_56 ho) (ct_step (zz_fr ([(197, 228), (195, 227), (199, 227), (191, 226)] ++ zz_bo)) zz_hf (zl_56 ho) rfl (by decide +kernel) (by decide +kernel) zs_56)
set_option maxRecDepth 100000 in
/-- cX3_readLevel(26, 5, 3) -/
theorem zs_57 : ai_shows zz_fnd zz_ctf zz_ctk zz_N ai_T ai_B1 20000 57 (zz_fr ([(197, 260), (195, 259), (199, 259), (191, 258)] ++ zz_bo)) = true := by decide +kernel
theorem zl_58 {sb : ai_SB} (ho : zz_open sb) : ∀ j, j < 58 → ct_ok zz_ctf zz_ctk sb j := ct_more (zl_57 ho) (ct_step (zz_fr ([(197, 260), (195, 259), (199, 259), (191, 258)] ++ zz_bo)) zz_hf (zl_57 ho) rfl (by decide +kernel) (by decide +kernel) zs_57)
set_option maxRecDepth 100000 in
/-- cX3_readLevel(26, 4, 3) -/
theorem zs_58 : ai_shows zz_fnd zz_ctf zz_ctk zz_N ai_T ai_B1 20000 58 (zz_fr ([(197, 268), (195, 267), (199, 267), (191, 266)] ++ zz_bo)) = true := by decide +kernel
theorem zl_59 {sb : ai_SB} (ho : zz_open sb) : ∀ j, j < 59 → ct_ok zz_ctf zz_ctk sb j := ct_more (zl_58 ho) (ct_step (zz_fr ([(197, 268), (195, 267), (199, 267), (191, 266)] ++ zz_bo)) zz_hf (zl_58 ho) rfl (by decide +kernel) (by decide +kernel) zs_58)
set_option maxRecDepth 100000 in
/-- cX3_readLevel(26, 3, 3) -/
theorem zs_59 : ai_shows zz_fnd zz_ctf zz_ctk zz_N ai_T ai_B1 20000 59 (zz_fr ([(197, 276), (195, 275), (199, 275), (191, 274)] ++ zz_bo)) = true := by decide +kernel
theorem zl_60 {sb : ai_SB} (ho : zz_open sb) : ∀ j, j < 60 → ct_ok zz_ctf zz_ctk sb j := ct_more (zl_59 ho) (ct_step (zz_fr ([(197, 276), (195, 275), (199, 275), (191, 274)] ++ zz_bo)) zz_hf (zl_59 ho) rfl (by decide +kernel) (by decide +kernel) zs_59)
set_option maxRecDepth 100000 in
/-- cX3_readLevel(26, 5, 2) -/
theorem zs_60 : ai_shows zz_fnd zz_ctf zz_ctk zz_N ai_T ai_B1 20000 60 (zz_fr ([(197, 308), (195, 307), (199, 307), (191, 306)] ++ zz_bo)) = true := by decide +kernel
theorem zl_61 {sb : ai_SB} (ho : zz_open sb) : ∀ j, j < 61 → ct_ok zz_ctf zz_ctk sb j := ct_more (zl_60 ho) (ct_step (zz_fr ([(197, 308), (195, 307), (199, 307), (191, 306)] ++ zz_bo)) zz_hf (zl_60 ho) rfl (by decide +kernel) (by decide +kernel) zs_60)
set_option maxRecDepth 100000 in
/-- cX3_readLevel(26, 4, 2) -/
theorem zs_61 : ai_shows zz_fnd zz_ctf zz_ctk zz_N ai_T ai_B1 20000 61 (zz_fr ([(197, 316), (195, 315), (199, 315), (191, 314)] ++ zz_bo)) = true := by decide +kernel
theorem zl_62 {sb : ai_SB} (ho : zz_open sb) : ∀ j, j < 62 → ct_ok zz_ctf zz_ctk sb j := ct_more (zl_61 ho) (ct_step (zz_fr ([(197, 316), (195, 315), (199, 315), (191, 314)] ++ zz_bo)) zz_hf (zl_61 ho) rfl (by decide +kernel) (by decide +kernel) zs_61)
set_option maxRecDepth 100000 in
/-- cX3_readLevel(26, 3, 2) -/
theorem zs_62 : ai_shows zz_fnd zz_ctf zz_ctk zz_N ai_T ai_B1 20000 62 (zz_fr ([(197, 324), (195, 323), (199, 323), (191, 322)] ++ zz_bo)) = true := by decide +kernel
theorem zl_63 {sb : ai_SB} (ho : zz_open sb) : ∀ j, j < 63 → ct_ok zz_ctf zz_ctk sb j := ct_more (zl_62 ho) (ct_step (zz_fr ([(197, 324), (195, 323), (199, 323), (191, 322)] ++ zz_bo)) zz_hf (zl_62 ho) rfl (by decide +kernel) (by decide +kernel) zs_62)
set_option maxRecDepth 100000 in
/-- cX3_readLevel(26, 5, 1) -/
theorem zs_63 : ai_shows zz_fnd zz_ctf zz_ctk zz_N ai_T ai_B1 20000 63 (zz_fr ([(197, 356), (195, 355), (199, 355), (191, 354)] ++ zz_bo)) = true := by decide +kernel
theorem zl_64 {sb : ai_SB} (ho : zz_open sb) : ∀ j, j < 64 → ct_ok zz_ctf zz_ctk sb j := ct_more (zl_63 ho) (ct_step (zz_fr ([(197, 356), (195, 355), (199, 355), (191, 354)] ++ zz_bo)) zz_hf (zl_63 ho) rfl (by decide +kernel) (by decide +kernel) zs_63)
set_option maxRecDepth 100000 in
/-- cX3_readLevel(26, 4, 1) -/
theorem zs_64 : ai_shows zz_fnd zz_ctf zz_ctk zz_N ai_T ai_B1 20000 64 (zz_fr ([(197, 364), (195, 363), (199, 363), (191, 362)] ++ zz_bo)) = true := by decide +kernel
theorem zl_65 {sb : ai_SB} (ho : zz_open sb) : ∀ j, j < 65 → ct_ok zz_ctf zz_ctk sb j := ct_more (zl_64 ho) (ct_step (zz_fr ([(197, 364), (195, 363), (199, 363), (191, 362)] ++ zz_bo)) zz_hf (zl_64 ho) rfl (by decide +kernel) (by decide +kernel) zs_64)
set_option maxRecDepth 100000 in
/-- cX3_readLevel(26, 3, 1) -/
theorem zs_65 : ai_shows zz_fnd zz_ctf zz_ctk zz_N ai_T ai_B1 20000 65 (zz_fr ([(197, 372), (195, 371), (199, 371), (191, 370)] ++ zz_bo)) = true := by decide +kernel
theorem zl_66 {sb : ai_SB} (ho : zz_open sb) : ∀ j, j < 66 → ct_ok zz_ctf zz_ctk sb j := ct_more (zl_65 ho) (ct_step (zz_fr ([(197, 372), (195, 371), (199, 371), (191, 370)] ++ zz_bo)) zz_hf (zl_65 ho) rfl (by decide +kernel) (by decide +kernel) zs_65)
set_option maxRecDepth 100000 in
/-- cX3_readLevel(26, 5, 0) -/
theorem zs_66 : ai_shows zz_fnd zz_ctf zz_ctk zz_N ai_T ai_B1 20000 66 (zz_fr ([(197, 404), (195, 403), (199, 403), (191, 402)] ++ zz_bo)) = true := by decide +kernel
theorem zl_67 {sb : ai_SB} (ho : zz_open sb) : ∀ j, j < 67 → ct_ok zz_ctf zz_ctk sb j := ct_more (zl_66 ho) (ct_step (zz_fr ([(197, 404), (195, 403), (199, 403), (191, 402)] ++ zz_bo)) zz_hf (zl_66 ho) rfl (by decide +kernel) (by decide +kernel) zs_66)
set_option maxRecDepth 100000 in
/-- cX3_readLevel(26, 4, 0) -/
theorem zs_67 : ai_shows zz_fnd zz_ctf zz_ctk zz_N ai_T ai_B1 20000 67 (zz_fr ([(197, 412), (195, 411), (199, 411), (191, 410)] ++ zz_bo)) = true := by decide +kernel
theorem zl_68 {sb : ai_SB} (ho : zz_open sb) : ∀ j, j < 68 → ct_ok zz_ctf zz_ctk sb j := ct_more (zl_67 ho) (ct_step (zz_fr ([(197, 412), (195, 411), (199, 411), (191, 410)] ++ zz_bo)) zz_hf (zl_67 ho) rfl (by decide +kernel) (by decide +kernel) zs_67)
set_option maxRecDepth 100000 in
/-- cX3_readLevel(26, 3, 0) -/
theorem zs_68 : ai_shows zz_fnd zz_ctf zz_ctk zz_N ai_T ai_B1 20000 68 (zz_fr ([(197, 420), (195, 419), (199, 419), (191, 418)] ++ zz_bo)) = true := by decide +kernel
theorem zl_69 {sb : ai_SB} (ho : zz_open sb) : ∀ j, j < 69 → ct_ok zz_ctf zz_ctk sb j := ct_more (zl_68 ho) (ct_step (zz_fr ([(197, 420), (195, 419), (199, 419), (191, 418)] ++ zz_bo)) zz_hf (zl_68 ho) rfl (by decide +kernel) (by decide +kernel) zs_68)
set_option maxRecDepth 100000 in
/-- cX3_readCompared(26, 0) -/
theorem zs_69 : ai_shows zz_fnd zz_ctf zz_ctk zz_N ai_T ai_B1 20000 69 (zz_fr ([(194, 424)] ++ zz_bo)) = true := by decide +kernel
theorem zl_70 {sb : ai_SB} (ho : zz_open sb) : ∀ j, j < 70 → ct_ok zz_ctf zz_ctk sb j := ct_more (zl_69 ho) (ct_step (zz_fr ([(194, 424)] ++ zz_bo)) zz_hf (zl_69 ho) rfl (by decide +kernel) (by decide +kernel) zs_69)
set_option maxRecDepth 100000 in
/-- cX3_readCompared(26, 1) -/
theorem zs_70 : ai_shows zz_fnd zz_ctf zz_ctk zz_N ai_T ai_B1 20000 70 (zz_fr ([(194, 376)] ++ zz_bo)) = true := by decide +kernel
theorem zl_71 {sb : ai_SB} (ho : zz_open sb) : ∀ j, j < 71 → ct_ok zz_ctf zz_ctk sb j := ct_more (zl_70 ho) (ct_step (zz_fr ([(194, 376)] ++ zz_bo)) zz_hf (zl_70 ho) rfl (by decide +kernel) (by decide +kernel) zs_70)

set_option maxRecDepth 100000 in
/-- cX3_readLevel(26, 4, 3) -/
theorem zs_75 : ai_shows zz_fnd zz_ctf zz_ctk zz_N ai_T ai_B1 20000 75 (zz_fr ([(197, 268), (195, 267), (199, 267), (191, 266)] ++ zz_bo)) = true := by decide +kernel
theorem zl_76 {sb : Nat} (ho : zz_open sb) : ∀ j, j < 76 → ct_ok zz_ctf zz_ctk sb j := ct_more (zl_75 ho) (ct_step (zz_fr ([(197, 268), (195, 267), (199, 267), (191, 266)] ++ zz_bo)) zz_hf (zl_75 ho) rfl (by decide +kernel) (by decide +kernel) zs_75)
set_option maxRecDepth 100000 in
/-- cX3_readLevel(26, 3, 3) -/
theorem zs_76 : ai_shows zz_fnd zz_ctf zz_ctk zz_N ai_T ai_B1 20000 76 (zz_fr ([(197, 276), (195, 275), (199, 275), (191, 274)] ++ zz_bo)) = true := by decide +kernel
theorem zl_77 {sb : Nat} (ho : zz_open sb) : ∀ j, j < 77 → ct_ok zz_ctf zz_ctk sb j := ct_more (zl_76 ho) (ct_step (zz_fr ([(197, 276), (195, 275), (199, 275), (191, 274)] ++ zz_bo)) zz_hf (zl_76 ho) rfl (by decide +kernel) (by decide +kernel) zs_76)
set_option maxRecDepth 100000 in
/-- cX3_readPlain(26, 3) -/
theorem zs_77 : ai_shows zz_fnd zz_ctf zz_ctk zz_N ai_T ai_B1 20000 77 (zz_fr ([(201, 282), (194, 281), (191, 281)] ++ zz_bo)) = true := by decide +kernel
theorem zl_78 {sb : Nat} (ho : zz_open sb) : ∀ j, j < 78 → ct_ok zz_ctf zz_ctk sb j := ct_more (zl_77 ho) (ct_step (zz_fr ([(201, 282), (194, 281), (191, 281)] ++ zz_bo)) zz_hf (zl_77 ho) rfl (by decide +kernel) (by decide +kernel) zs_77)
set_option maxRecDepth 100000 in
/-- cX3_readLevel(26, 2, 3) -/
theorem zs_78 : ai_shows zz_fnd zz_ctf zz_ctk zz_N ai_T ai_B1 20000 78 (zz_fr ([(197, 284), (195, 283), (199, 283), (191, 282)] ++ zz_bo)) = true := by decide +kernel
theorem zl_79 {sb : Nat} (ho : zz_open sb) : ∀ j, j < 79 → ct_ok zz_ctf zz_ctk sb j := ct_more (zl_78 ho) (ct_step (zz_fr ([(197, 284), (195, 283), (199, 283), (191, 282)] ++ zz_bo)) zz_hf (zl_78 ho) rfl (by decide +kernel) (by decide +kernel) zs_78)
set_option maxRecDepth 100000 in
/-- cX3_readLevel(26, 1, 3) -/
theorem zs_79 : ai_shows zz_fnd zz_ctf zz_ctk zz_N ai_T ai_B1 20000 79 (zz_fr ([(197, 292), (195, 291), (199, 291), (191, 290)] ++ zz_bo)) = true := by decide +kernel
theorem zl_80 {sb : Nat} (ho : zz_open sb) : ∀ j, j < 80 → ct_ok zz_ctf zz_ctk sb j := ct_more (zl_79 ho) (ct_step (zz_fr ([(197, 292), (195, 291), (199, 291), (191, 290)] ++ zz_bo)) zz_hf (zl_79 ho) rfl (by decide +kernel) (by decide +kernel) zs_79)
set_option maxRecDepth 100000 in
/-- cX3_readLevel(26, 0, 3) -/
theorem zs_80 : ai_shows zz_fnd zz_ctf zz_ctk zz_N ai_T ai_B1 20000 80 (zz_fr ([(197, 300), (195, 299), (199, 299), (191, 298)] ++ zz_bo)) = true := by decide +kernel
theorem zl_81 {sb : Nat} (ho : zz_open sb) : ∀ j, j < 81 → ct_ok zz_ctf zz_ctk sb j := ct_more (zl_80 ho) (ct_step (zz_fr ([(197, 300), (195, 299), (199, 299), (191, 298)] ++ zz_bo)) zz_hf (zl_80 ho) rfl (by decide +kernel) (by decide +kernel) zs_80)
set_option maxRecDepth 100000 in
/-- cX3_readLevel(26, 5, 2) -/
theorem zs_81 : ai_shows zz_fnd zz_ctf zz_ctk zz_N ai_T ai_B1 20000 81 (zz_fr ([(197, 308), (195, 307), (199, 307), (191, 306)] ++ zz_bo)) = true := by decide +kernel
theorem zl_82 {sb : Nat} (ho : zz_open sb) : ∀ j, j < 82 → ct_ok zz_ctf zz_ctk sb j := ct_more (zl_81 ho) (ct_step (zz_fr ([(197, 308), (195, 307), (199, 307), (191, 306)] ++ zz_bo)) zz_hf (zl_81 ho) rfl (by decide +kernel) (by decide +kernel) zs_81)
set_option maxRecDepth 100000 in
/-- cX3_readLevel(26, 4, 2) -/
theorem zs_82 : ai_shows zz_fnd zz_ctf zz_ctk zz_N ai_T ai_B1 20000 82 (zz_fr ([(197, 316), (195, 315), (199, 315), (191, 314)] ++ zz_bo)) = true := by decide +kernel
theorem zl_83 {sb : Nat} (ho : zz_open sb) : ∀ j, j < 83 → ct_ok zz_ctf zz_ctk sb j := ct_more (zl_82 ho) (ct_step (zz_fr ([(197, 316), (195, 315), (199, 315), (191, 314)] ++ zz_bo)) zz_hf (zl_82 ho) rfl (by decide +kernel) (by decide +kernel) zs_82)
set_option maxRecDepth 100000 in
/-- cX3_readLevel(26, 3, 2) -/
theorem zs_83 : ai_shows zz_fnd zz_ctf zz_ctk zz_N ai_T ai_B1 20000 83 (zz_fr ([(197, 324), (195, 323), (199, 323), (191, 322)] ++ zz_bo)) = true := by decide +kernel
theorem zl_84 {sb : Nat} (ho : zz_open sb) : ∀ j, j < 84 → ct_ok zz_ctf zz_ctk sb j := ct_more (zl_83 ho) (ct_step (zz_fr ([(197, 324), (195, 323), (199, 323), (191, 322)] ++ zz_bo)) zz_hf (zl_83 ho) rfl (by decide +kernel) (by decide +kernel) zs_83)
set_option maxRecDepth 100000 in
/-- cX3_readPlain(26, 2) -/
theorem zs_84 : ai_shows zz_fnd zz_ctf zz_ctk zz_N ai_T ai_B1 20000 84 (zz_fr ([(201, 330), (194, 329), (191, 329)] ++ zz_bo)) = true := by decide +kernel
theorem zl_85 {sb : Nat} (ho : zz_open sb) : ∀ j, j < 85 → ct_ok zz_ctf zz_ctk sb j := ct_more (zl_84 ho) (ct_step (zz_fr ([(201, 330), (194, 329), (191, 329)] ++ zz_bo)) zz_hf (zl_84 ho) rfl (by decide +kernel) (by decide +kernel) zs_84)

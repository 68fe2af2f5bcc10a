set_option maxRecDepth 100000 in
/-- cX3_readCompared(26, 2) -/
theorem zs_71 : ai_shows zz_fnd zz_ctf zz_ctk zz_N ai_T ai_B1 20000 71 (zz_fr ([(194, 328)] ++ zz_bo)) = true := by decide +kernel
theorem zl_72 {sb : ai_SB} (ho : zz_open sb) : ∀ j, j < 72 → ct_ok zz_ctf zz_ctk sb j := ct_more (zl_71 ho) (ct_step (zz_fr ([(194, 328)] ++ zz_bo)) zz_hf (zl_71 ho) rfl (by decide +kernel) (by decide +kernel) zs_71)
set_option maxRecDepth 100000 in
/-- cX3_readCompared(26, 3) -/
theorem zs_72 : ai_shows zz_fnd zz_ctf zz_ctk zz_N ai_T ai_B1 20000 72 (zz_fr ([(194, 280)] ++ zz_bo)) = true := by decide +kernel
theorem zl_73 {sb : ai_SB} (ho : zz_open sb) : ∀ j, j < 73 → ct_ok zz_ctf zz_ctk sb j := ct_more (zl_72 ho) (ct_step (zz_fr ([(194, 280)] ++ zz_bo)) zz_hf (zl_72 ho) rfl (by decide +kernel) (by decide +kernel) zs_72)
set_option maxRecDepth 100000 in
/-- cX3_readCompared(26, 4) -/
theorem zs_73 : ai_shows zz_fnd zz_ctf zz_ctk zz_N ai_T ai_B1 20000 73 (zz_fr ([(194, 232)] ++ zz_bo)) = true := by decide +kernel
theorem zl_74 {sb : ai_SB} (ho : zz_open sb) : ∀ j, j < 74 → ct_ok zz_ctf zz_ctk sb j := ct_more (zl_73 ho) (ct_step (zz_fr ([(194, 232)] ++ zz_bo)) zz_hf (zl_73 ho) rfl (by decide +kernel) (by decide +kernel) zs_73)
set_option maxRecDepth 100000 in
/-- cX3_readCompared(26, 5) -/
theorem zs_74 : ai_shows zz_fnd zz_ctf zz_ctk zz_N ai_T ai_B1 20000 74 (zz_fr ([(194, 184)] ++ zz_bo)) = true := by decide +kernel
theorem zl_75 {sb : ai_SB} (ho : zz_open sb) : ∀ j, j < 75 → ct_ok zz_ctf zz_ctk sb j := ct_more (zl_74 ho) (ct_step (zz_fr ([(194, 184)] ++ zz_bo)) zz_hf (zl_74 ho) rfl (by decide +kernel) (by decide +kernel) zs_74)
set_option maxRecDepth 100000 in
/-- cX3_readCompared(26, 6) -/
theorem zs_75 : ai_shows zz_fnd zz_ctf zz_ctk zz_N ai_T ai_B1 20000 75 (zz_fr ([(194, 136)] ++ zz_bo)) = true := by decide +kernel
theorem zl_76 {sb : ai_SB} (ho : zz_open sb) : ∀ j, j < 76 → ct_ok zz_ctf zz_ctk sb j := ct_more (zl_75 ho) (ct_step (zz_fr ([(194, 136)] ++ zz_bo)) zz_hf (zl_75 ho) rfl (by decide +kernel) (by decide +kernel) zs_75)
set_option maxRecDepth 100000 in
/-- cX3_readCompared(26, 7) -/
theorem zs_76 : ai_shows zz_fnd zz_ctf zz_ctk zz_N ai_T ai_B1 20000 76 (zz_fr ([(194, 88)] ++ zz_bo)) = true := by decide +kernel
theorem zl_77 {sb : ai_SB} (ho : zz_open sb) : ∀ j, j < 77 → ct_ok zz_ctf zz_ctk sb j := ct_more (zl_76 ho) (ct_step (zz_fr ([(194, 88)] ++ zz_bo)) zz_hf (zl_76 ho) rfl (by decide +kernel) (by decide +kernel) zs_76)
set_option maxRecDepth 100000 in
/-- cX3_readCompared(26, 8) -/
theorem zs_77 : ai_shows zz_fnd zz_ctf zz_ctk zz_N ai_T ai_B1 20000 77 (zz_fr ([(194, 40)] ++ zz_bo)) = true := by decide +kernel
theorem zl_78 {sb : ai_SB} (ho : zz_open sb) : ∀ j, j < 78 → ct_ok zz_ctf zz_ctk sb j := ct_more (zl_77 ho) (ct_step (zz_fr ([(194, 40)] ++ zz_bo)) zz_hf (zl_77 ho) rfl (by decide +kernel) (by decide +kernel) zs_77)
set_option maxRecDepth 100000 in
/-- cX3_readPlain(26, 8) -/
theorem zs_78 : ai_shows zz_fnd zz_ctf zz_ctk zz_N ai_T ai_B1 20000 78 (zz_fr ([(201, 42), (191, 41)] ++ zz_bo)) = true := by decide +kernel
theorem zl_79 {sb : ai_SB} (ho : zz_open sb) : ∀ j, j < 79 → ct_ok zz_ctf zz_ctk sb j := ct_more (zl_78 ho) (ct_step (zz_fr ([(201, 42), (191, 41)] ++ zz_bo)) zz_hf (zl_78 ho) rfl (by decide +kernel) (by decide +kernel) zs_78)
set_option maxRecDepth 100000 in
/-- cX3_readLevel(26, 2, 8) -/
theorem zs_79 : ai_shows zz_fnd zz_ctf zz_ctk zz_N ai_T ai_B1 20000 79 (zz_fr ([(197, 44), (195, 43), (199, 43), (191, 42)] ++ zz_bo)) = true := by decide +kernel
theorem zl_80 {sb : ai_SB} (ho : zz_open sb) : ∀ j, j < 80 → ct_ok zz_ctf zz_ctk sb j := ct_more (zl_79 ho) (ct_step (zz_fr ([(197, 44), (195, 43), (199, 43), (191, 42)] ++ zz_bo)) zz_hf (zl_79 ho) rfl (by decide +kernel) (by decide +kernel) zs_79)
set_option maxRecDepth 100000 in
/-- cX3_readLevel(26, 1, 8) -/
theorem zs_80 : ai_shows zz_fnd zz_ctf zz_ctk zz_N ai_T ai_B1 20000 80 (zz_fr ([(197, 52), (195, 51), (199, 51), (191, 50)] ++ zz_bo)) = true := by decide +kernel
theorem zl_81 {sb : ai_SB} (ho : zz_open sb) : ∀ j, j < 81 → ct_ok zz_ctf zz_ctk sb j := ct_more (zl_80 ho) (ct_step (zz_fr ([(197, 52), (195, 51), (199, 51), (191, 50)] ++ zz_bo)) zz_hf (zl_80 ho) rfl (by decide +kernel) (by decide +kernel) zs_80)
set_option maxRecDepth 100000 in
/-- cX3_readLevel(26, 0, 8) -/
theorem zs_81 : ai_shows zz_fnd zz_ctf zz_ctk zz_N ai_T ai_B1 20000 81 (zz_fr ([(197, 60), (195, 59), (199, 59), (191, 58)] ++ zz_bo)) = true := by decide +kernel
theorem zl_82 {sb : ai_SB} (ho : zz_open sb) : ∀ j, j < 82 → ct_ok zz_ctf zz_ctk sb j := ct_more (zl_81 ho) (ct_step (zz_fr ([(197, 60), (195, 59), (199, 59), (191, 58)] ++ zz_bo)) zz_hf (zl_81 ho) rfl (by decide +kernel) (by decide +kernel) zs_81)
set_option maxRecDepth 100000 in
/-- cX3_readPlain(26, 7) -/
theorem zs_82 : ai_shows zz_fnd zz_ctf zz_ctk zz_N ai_T ai_B1 20000 82 (zz_fr ([(201, 90), (191, 89)] ++ zz_bo)) = true := by decide +kernel
theorem zl_83 {sb : ai_SB} (ho : zz_open sb) : ∀ j, j < 83 → ct_ok zz_ctf zz_ctk sb j := ct_more (zl_82 ho) (ct_step (zz_fr ([(201, 90), (191, 89)] ++ zz_bo)) zz_hf (zl_82 ho) rfl (by decide +kernel) (by decide +kernel) zs_82)
set_option maxRecDepth 100000 in
/-- cX3_readLevel(26, 2, 7) -/
theorem zs_83 : ai_shows zz_fnd zz_ctf zz_ctk zz_N ai_T ai_B1 20000 83 (zz_fr ([(197, 92), (195, 91), (199, 91), (191, 90)] ++ zz_bo)) = true := by decide +kernel
theorem zl_84 {sb : ai_SB} (ho : zz_open sb) : ∀ j, j < 84 → ct_ok zz_ctf zz_ctk sb j := ct_more (zl_83 ho) (ct_step (zz_fr ([(197, 92), (195, 91), (199, 91), (191, 90)] ++ zz_bo)) zz_hf (zl_83 ho) rfl (by decide +kernel) (by decide +kernel) zs_83)
set_option maxRecDepth 100000 in
/-- cX3_readLevel(26, 1, 7) -/
theorem zs_84 : ai_shows zz_fnd zz_ctf zz_ctk zz_N ai_T ai_B1 20000 84 (zz_fr ([(197, 100), (195, 99), (199, 99), (191, 98)] ++ zz_bo)) = true := by decide +kernel
theorem zl_85 {sb : ai_SB} (ho : zz_open sb) : ∀ j, j < 85 → ct_ok zz_ctf zz_ctk sb j := ct_more (zl_84 ho) (ct_step (zz_fr ([(197, 100), (195, 99), (199, 99), (191, 98)] ++ zz_bo)) zz_hf (zl_84 ho) rfl (by decide +kernel) (by decide +kernel) zs_84)
set_option maxRecDepth 100000 in
/-- cX3_readLevel(26, 0, 7) -/
theorem zs_85 : ai_shows zz_fnd zz_ctf zz_ctk zz_N ai_T ai_B1 20000 85 (zz_fr ([(197, 108), (195, 107), (199, 107), (191, 106)] ++ zz_bo)) = true := by decide +kernel
theorem zl_86 {sb : ai_SB} (ho : zz_open sb) : ∀ j, j < 86 → ct_ok zz_ctf zz_ctk sb j := ct_more (zl_85 ho) (ct_step (zz_fr ([(197, 108), (195, 107), (199, 107), (191, 106)] ++ zz_bo)) zz_hf (zl_85 ho) rfl (by decide +kernel) (by decide +kernel) zs_85)
set_option maxRecDepth 100000 in
/-- cX3_readPlain(26, 6) -/
theorem zs_86 : ai_shows zz_fnd zz_ctf zz_ctk zz_N ai_T ai_B1 20000 86 (zz_fr ([(201, 138), (191, 137)] ++ zz_bo)) = true := by decide +kernel
theorem zl_87 {sb : ai_SB} (ho : zz_open sb) : ∀ j, j < 87 → ct_ok zz_ctf zz_ctk sb j := ct_more (zl_86 ho) (ct_step (zz_fr ([(201, 138), (191, 137)] ++ zz_bo)) zz_hf (zl_86 ho) rfl (by decide +kernel) (by decide +kernel) zs_86)
set_option maxRecDepth 100000 in
/-- cX3_readLevel(26, 2, 6) -/
theorem zs_87 : ai_shows zz_fnd zz_ctf zz_ctk zz_N ai_T ai_B1 20000 87 (zz_fr ([(197, 140), (195, 139), (199, 139), (191, 138)] ++ zz_bo)) = true := by decide +kernel
theorem zl_88 {sb : ai_SB} (ho : zz_open sb) : ∀ j, j < 88 → ct_ok zz_ctf zz_ctk sb j := ct_more (zl_87 ho) (ct_step (zz_fr ([(197, 140), (195, 139), (199, 139), (191, 138)] ++ zz_bo)) zz_hf (zl_87 ho) rfl (by decide +kernel) (by decide +kernel) zs_87)
set_option maxRecDepth 100000 in
/-- cX3_readLevel(26, 1, 6) -/
theorem zs_88 : ai_shows zz_fnd zz_ctf zz_ctk zz_N ai_T ai_B1 20000 88 (zz_fr ([(197, 148), (195, 147), (199, 147), (191, 146)] ++ zz_bo)) = true := by decide +kernel
theorem zl_89 {sb : ai_SB} (ho : zz_open sb) : ∀ j, j < 89 → ct_ok zz_ctf zz_ctk sb j := ct_more (zl_88 ho) (ct_step (zz_fr ([(197, 148), (195, 147), (199, 147), (191, 146)] ++ zz_bo)) zz_hf (zl_88 ho) rfl (by decide +kernel) (by decide +kernel) zs_88)

set_option maxRecDepth 100000 in
/-- cX3_readLevel(26, 0, 2) -/
theorem zs_105 : ai_shows zz_fnd zz_ctf zz_ctk zz_N ai_T ai_B1 20000 105 (zz_fr ([(197, 348), (195, 347), (199, 347), (191, 346)] ++ zz_bo)) = true := by decide +kernel
theorem zl_106 {sb : ai_SB} (ho : zz_open sb) : ∀ j, j < 106 → ct_ok zz_ctf zz_ctk sb j := ct_more (zl_105 ho) (ct_step (zz_fr ([(197, 348), (195, 347), (199, 347), (191, 346)] ++ zz_bo)) zz_hf (zl_105 ho) rfl (by decide +kernel) (by decide +kernel) zs_105)
set_option maxRecDepth 100000 in
/-- cX3_readPlain(26, 1) -/
theorem zs_106 : ai_shows zz_fnd zz_ctf zz_ctk zz_N ai_T ai_B1 20000 106 (zz_fr ([(201, 378), (191, 377)] ++ zz_bo)) = true := by decide +kernel
theorem zl_107 {sb : ai_SB} (ho : zz_open sb) : ∀ j, j < 107 → ct_ok zz_ctf zz_ctk sb j := ct_more (zl_106 ho) (ct_step (zz_fr ([(201, 378), (191, 377)] ++ zz_bo)) zz_hf (zl_106 ho) rfl (by decide +kernel) (by decide +kernel) zs_106)
set_option maxRecDepth 100000 in
/-- cX3_readLevel(26, 2, 1) -/
theorem zs_107 : ai_shows zz_fnd zz_ctf zz_ctk zz_N ai_T ai_B1 20000 107 (zz_fr ([(197, 380), (195, 379), (199, 379), (191, 378)] ++ zz_bo)) = true := by decide +kernel
theorem zl_108 {sb : ai_SB} (ho : zz_open sb) : ∀ j, j < 108 → ct_ok zz_ctf zz_ctk sb j := ct_more (zl_107 ho) (ct_step (zz_fr ([(197, 380), (195, 379), (199, 379), (191, 378)] ++ zz_bo)) zz_hf (zl_107 ho) rfl (by decide +kernel) (by decide +kernel) zs_107)
set_option maxRecDepth 100000 in
/-- cX3_readLevel(26, 1, 1) -/
theorem zs_108 : ai_shows zz_fnd zz_ctf zz_ctk zz_N ai_T ai_B1 20000 108 (zz_fr ([(197, 388), (195, 387), (199, 387), (191, 386)] ++ zz_bo)) = true := by decide +kernel
theorem zl_109 {sb : ai_SB} (ho : zz_open sb) : ∀ j, j < 109 → ct_ok zz_ctf zz_ctk sb j := ct_more (zl_108 ho) (ct_step (zz_fr ([(197, 388), (195, 387), (199, 387), (191, 386)] ++ zz_bo)) zz_hf (zl_108 ho) rfl (by decide +kernel) (by decide +kernel) zs_108)
set_option maxRecDepth 100000 in
/-- cX3_readLevel(26, 0, 1) -/
theorem zs_109 : ai_shows zz_fnd zz_ctf zz_ctk zz_N ai_T ai_B1 20000 109 (zz_fr ([(197, 396), (195, 395), (199, 395), (191, 394)] ++ zz_bo)) = true := by decide +kernel
theorem zl_110 {sb : ai_SB} (ho : zz_open sb) : ∀ j, j < 110 → ct_ok zz_ctf zz_ctk sb j := ct_more (zl_109 ho) (ct_step (zz_fr ([(197, 396), (195, 395), (199, 395), (191, 394)] ++ zz_bo)) zz_hf (zl_109 ho) rfl (by decide +kernel) (by decide +kernel) zs_109)
set_option maxRecDepth 100000 in
/-- cX3_readPlain(26, 0) -/
theorem zs_110 : ai_shows zz_fnd zz_ctf zz_ctk zz_N ai_T ai_B1 20000 110 (zz_fr ([(201, 426), (191, 425)] ++ zz_bo)) = true := by decide +kernel
theorem zl_111 {sb : ai_SB} (ho : zz_open sb) : ∀ j, j < 111 → ct_ok zz_ctf zz_ctk sb j := ct_more (zl_110 ho) (ct_step (zz_fr ([(201, 426), (191, 425)] ++ zz_bo)) zz_hf (zl_110 ho) rfl (by decide +kernel) (by decide +kernel) zs_110)
set_option maxRecDepth 100000 in
/-- cX3_readLevel(26, 2, 0) -/
theorem zs_111 : ai_shows zz_fnd zz_ctf zz_ctk zz_N ai_T ai_B1 20000 111 (zz_fr ([(197, 428), (195, 427), (199, 427), (191, 426)] ++ zz_bo)) = true := by decide +kernel
theorem zl_112 {sb : ai_SB} (ho : zz_open sb) : ∀ j, j < 112 → ct_ok zz_ctf zz_ctk sb j := ct_more (zl_111 ho) (ct_step (zz_fr ([(197, 428), (195, 427), (199, 427), (191, 426)] ++ zz_bo)) zz_hf (zl_111 ho) rfl (by decide +kernel) (by decide +kernel) zs_111)
set_option maxRecDepth 100000 in
/-- cX3_readLevel(26, 1, 0) -/
theorem zs_112 : ai_shows zz_fnd zz_ctf zz_ctk zz_N ai_T ai_B1 20000 112 (zz_fr ([(197, 436), (195, 435), (199, 435), (191, 434)] ++ zz_bo)) = true := by decide +kernel
theorem zl_113 {sb : ai_SB} (ho : zz_open sb) : ∀ j, j < 113 → ct_ok zz_ctf zz_ctk sb j := ct_more (zl_112 ho) (ct_step (zz_fr ([(197, 436), (195, 435), (199, 435), (191, 434)] ++ zz_bo)) zz_hf (zl_112 ho) rfl (by decide +kernel) (by decide +kernel) zs_112)
set_option maxRecDepth 100000 in
/-- cX3_readLevel(26, 0, 0) -/
theorem zs_113 : ai_shows zz_fnd zz_ctf zz_ctk zz_N ai_T ai_B1 20000 113 (zz_fr ([(197, 444), (195, 443), (199, 443), (191, 442)] ++ zz_bo)) = true := by decide +kernel
theorem zl_114 {sb : ai_SB} (ho : zz_open sb) : ∀ j, j < 114 → ct_ok zz_ctf zz_ctk sb j := ct_more (zl_113 ho) (ct_step (zz_fr ([(197, 444), (195, 443), (199, 443), (191, 442)] ++ zz_bo)) zz_hf (zl_113 ho) rfl (by decide +kernel) (by decide +kernel) zs_113)
set_option maxRecDepth 100000 in
/-- cX3_readPhrase(26, 0) -/
theorem zs_114 : ai_shows zz_fnd zz_ctf zz_ctk zz_N ai_T ai_B1 20000 114 (zz_fr zz_bo) = true := by decide +kernel
theorem zl_115 {sb : ai_SB} (ho : zz_open sb) : ∀ j, j < 115 → ct_ok zz_ctf zz_ctk sb j := ct_more (zl_114 ho) (ct_step (zz_fr zz_bo) zz_hf (zl_114 ho) rfl (by decide +kernel) (by decide +kernel) zs_114)
set_option maxRecDepth 100000 in
/-- cX3_readPhrase(26, 3) -/
theorem zs_115 : ai_shows zz_fnd zz_ctf zz_ctk zz_N ai_T ai_B1 20000 115 (zz_fr zz_bo) = true := by decide +kernel
theorem zl_116 {sb : ai_SB} (ho : zz_open sb) : ∀ j, j < 116 → ct_ok zz_ctf zz_ctk sb j := ct_more (zl_115 ho) (ct_step (zz_fr zz_bo) zz_hf (zl_115 ho) rfl (by decide +kernel) (by decide +kernel) zs_115)
set_option maxRecDepth 100000 in
/-- cX5_add(10,) -/
theorem zs_116 : ai_shows zz_fnd zz_ctf zz_ctk zz_N ai_T ai_B1 20000 116 (zz_fr zz_bo) = true := by decide +kernel
theorem zl_117 {sb : ai_SB} (ho : zz_open sb) : ∀ j, j < 117 → ct_ok zz_ctf zz_ctk sb j := ct_more (zl_116 ho) (ct_step (zz_fr zz_bo) zz_hf (zl_116 ho) rfl (by decide +kernel) (by decide +kernel) zs_116)
set_option maxRecDepth 100000 in
/-- cX3_readClause(26,) -/
theorem zs_117 : ai_shows zz_fnd zz_ctf zz_ctk zz_N ai_T ai_B1 20000 117 (zz_fr zz_bo) = true := by decide +kernel
theorem zl_118 {sb : ai_SB} (ho : zz_open sb) : ∀ j, j < 118 → ct_ok zz_ctf zz_ctk sb j := ct_more (zl_117 ho) (ct_step (zz_fr zz_bo) zz_hf (zl_117 ho) rfl (by decide +kernel) (by decide +kernel) zs_117)
set_option maxRecDepth 100000 in
/-- cX3_readClauses(26,) -/
theorem zs_118 : ai_shows zz_fnd zz_ctf zz_ctk zz_N ai_T ai_B1 20000 118 (zz_fr zz_bo) = true := by decide +kernel
theorem zl_119 {sb : ai_SB} (ho : zz_open sb) : ∀ j, j < 119 → ct_ok zz_ctf zz_ctk sb j := ct_more (zl_118 ho) (ct_step (zz_fr zz_bo) zz_hf (zl_118 ho) rfl (by decide +kernel) (by decide +kernel) zs_118)
set_option maxRecDepth 100000 in
/-- cX3_runEnd(26,) -/
theorem zs_119 : ai_shows zz_fnd zz_ctf zz_ctk zz_N ai_T ai_B1 20000 119 (zz_fr zz_bo) = true := by decide +kernel
theorem zl_120 {sb : ai_SB} (ho : zz_open sb) : ∀ j, j < 120 → ct_ok zz_ctf zz_ctk sb j := ct_more (zl_119 ho) (ct_step (zz_fr zz_bo) zz_hf (zl_119 ho) rfl (by decide +kernel) (by decide +kernel) zs_119)
set_option maxRecDepth 100000 in
/-- cX3_splitTokens(26,) -/
theorem zs_120 : ai_shows zz_fnd zz_ctf zz_ctk zz_N ai_T ai_B1 20000 120 (zz_fr zz_bo) = true := by decide +kernel
theorem zl_121 {sb : ai_SB} (ho : zz_open sb) : ∀ j, j < 121 → ct_ok zz_ctf zz_ctk sb j := ct_more (zl_120 ho) (ct_step (zz_fr zz_bo) zz_hf (zl_120 ho) rfl (by decide +kernel) (by decide +kernel) zs_120)
set_option maxRecDepth 100000 in
/-- cX3_startHere(26,) -/
theorem zs_121 : ai_shows zz_fnd zz_ctf zz_ctk zz_N ai_T ai_B1 20000 121 (zz_fr zz_bo) = true := by decide +kernel
theorem zl_122 {sb : ai_SB} (ho : zz_open sb) : ∀ j, j < 122 → ct_ok zz_ctf zz_ctk sb j := ct_more (zl_121 ho) (ct_step (zz_fr zz_bo) zz_hf (zl_121 ho) rfl (by decide +kernel) (by decide +kernel) zs_121)
set_option maxRecDepth 100000 in
/-- cX3_write(26,) -/
theorem zs_122 : ai_shows zz_fnd zz_ctf zz_ctk zz_N ai_T ai_B1 20000 122 (zz_fr zz_bo) = true := by decide +kernel
theorem zl_123 {sb : ai_SB} (ho : zz_open sb) : ∀ j, j < 123 → ct_ok zz_ctf zz_ctk sb j := ct_more (zl_122 ho) (ct_step (zz_fr zz_bo) zz_hf (zl_122 ho) rfl (by decide +kernel) (by decide +kernel) zs_122)
set_option maxRecDepth 100000 in
/-- cX4_leastBy(57,) -/
theorem zs_123 : ai_shows zz_fnd zz_ctf zz_ctk zz_N ai_T ai_B1 20000 123 (zz_fr zz_bo) = true := by decide +kernel
theorem zl_124 {sb : ai_SB} (ho : zz_open sb) : ∀ j, j < 124 → ct_ok zz_ctf zz_ctk sb j := ct_more (zl_123 ho) (ct_step (zz_fr zz_bo) zz_hf (zl_123 ho) rfl (by decide +kernel) (by decide +kernel) zs_123)
set_option maxRecDepth 100000 in
/-- cX4_fill(57,) -/
theorem zs_124 : ai_shows zz_fnd zz_ctf zz_ctk zz_N ai_T ai_B1 20000 124 (zz_fr zz_bo) = true := by decide +kernel
theorem zl_125 {sb : ai_SB} (ho : zz_open sb) : ∀ j, j < 125 → ct_ok zz_ctf zz_ctk sb j := ct_more (zl_124 ho) (ct_step (zz_fr zz_bo) zz_hf (zl_124 ho) rfl (by decide +kernel) (by decide +kernel) zs_124)

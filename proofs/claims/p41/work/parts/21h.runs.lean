set_option maxRecDepth 100000 in
/-- cX3_readLevel(26, 4, 0) -/
theorem zs_96 : ai_shows zz_fnd zz_ctf zz_ctk zz_N ai_T ai_B1 20000 96 (zz_fr ([(197, 412), (195, 411), (199, 411), (191, 410)] ++ zz_bo)) = true := by decide +kernel
theorem zl_97 {sb : Nat} (ho : zz_open sb) : ∀ j, j < 97 → ct_ok zz_ctf zz_ctk sb j := ct_more (zl_96 ho) (ct_step (zz_fr ([(197, 412), (195, 411), (199, 411), (191, 410)] ++ zz_bo)) zz_hf (zl_96 ho) rfl (by decide +kernel) (by decide +kernel) zs_96)
set_option maxRecDepth 100000 in
/-- cX3_readLevel(26, 3, 0) -/
theorem zs_97 : ai_shows zz_fnd zz_ctf zz_ctk zz_N ai_T ai_B1 20000 97 (zz_fr ([(197, 420), (195, 419), (199, 419), (191, 418)] ++ zz_bo)) = true := by decide +kernel
theorem zl_98 {sb : Nat} (ho : zz_open sb) : ∀ j, j < 98 → ct_ok zz_ctf zz_ctk sb j := ct_more (zl_97 ho) (ct_step (zz_fr ([(197, 420), (195, 419), (199, 419), (191, 418)] ++ zz_bo)) zz_hf (zl_97 ho) rfl (by decide +kernel) (by decide +kernel) zs_97)
set_option maxRecDepth 100000 in
/-- cX3_readPlain(26, 0) -/
theorem zs_98 : ai_shows zz_fnd zz_ctf zz_ctk zz_N ai_T ai_B1 20000 98 (zz_fr ([(201, 426), (194, 425), (191, 425)] ++ zz_bo)) = true := by decide +kernel
theorem zl_99 {sb : Nat} (ho : zz_open sb) : ∀ j, j < 99 → ct_ok zz_ctf zz_ctk sb j := ct_more (zl_98 ho) (ct_step (zz_fr ([(201, 426), (194, 425), (191, 425)] ++ zz_bo)) zz_hf (zl_98 ho) rfl (by decide +kernel) (by decide +kernel) zs_98)
set_option maxRecDepth 100000 in
/-- cX3_readLevel(26, 2, 0) -/
theorem zs_99 : ai_shows zz_fnd zz_ctf zz_ctk zz_N ai_T ai_B1 20000 99 (zz_fr ([(197, 428), (195, 427), (199, 427), (191, 426)] ++ zz_bo)) = true := by decide +kernel
theorem zl_100 {sb : Nat} (ho : zz_open sb) : ∀ j, j < 100 → ct_ok zz_ctf zz_ctk sb j := ct_more (zl_99 ho) (ct_step (zz_fr ([(197, 428), (195, 427), (199, 427), (191, 426)] ++ zz_bo)) zz_hf (zl_99 ho) rfl (by decide +kernel) (by decide +kernel) zs_99)
set_option maxRecDepth 100000 in
/-- cX3_readLevel(26, 1, 0) -/
theorem zs_100 : ai_shows zz_fnd zz_ctf zz_ctk zz_N ai_T ai_B1 20000 100 (zz_fr ([(197, 436), (195, 435), (199, 435), (191, 434)] ++ zz_bo)) = true := by decide +kernel
theorem zl_101 {sb : Nat} (ho : zz_open sb) : ∀ j, j < 101 → ct_ok zz_ctf zz_ctk sb j := ct_more (zl_100 ho) (ct_step (zz_fr ([(197, 436), (195, 435), (199, 435), (191, 434)] ++ zz_bo)) zz_hf (zl_100 ho) rfl (by decide +kernel) (by decide +kernel) zs_100)
set_option maxRecDepth 100000 in
/-- cX3_readLevel(26, 0, 0) -/
theorem zs_101 : ai_shows zz_fnd zz_ctf zz_ctk zz_N ai_T ai_B1 20000 101 (zz_fr ([(197, 444), (195, 443), (199, 443), (191, 442)] ++ zz_bo)) = true := by decide +kernel
theorem zl_102 {sb : Nat} (ho : zz_open sb) : ∀ j, j < 102 → ct_ok zz_ctf zz_ctk sb j := ct_more (zl_101 ho) (ct_step (zz_fr ([(197, 444), (195, 443), (199, 443), (191, 442)] ++ zz_bo)) zz_hf (zl_101 ho) rfl (by decide +kernel) (by decide +kernel) zs_101)
set_option maxRecDepth 100000 in
/-- cX5_add(10,) -/
theorem zs_102 : ai_shows zz_fnd zz_ctf zz_ctk zz_N ai_T ai_B1 20000 102 (zz_fr zz_bo) = true := by decide +kernel
theorem zl_103 {sb : Nat} (ho : zz_open sb) : ∀ j, j < 103 → ct_ok zz_ctf zz_ctk sb j := ct_more (zl_102 ho) (ct_step (zz_fr zz_bo) zz_hf (zl_102 ho) rfl (by decide +kernel) (by decide +kernel) zs_102)
set_option maxRecDepth 100000 in
/-- cX3_readClauses(26,) -/
theorem zs_103 : ai_shows zz_fnd zz_ctf zz_ctk zz_N ai_T ai_B1 20000 103 (zz_fr zz_bo) = true := by decide +kernel
theorem zl_104 {sb : Nat} (ho : zz_open sb) : ∀ j, j < 104 → ct_ok zz_ctf zz_ctk sb j := ct_more (zl_103 ho) (ct_step (zz_fr zz_bo) zz_hf (zl_103 ho) rfl (by decide +kernel) (by decide +kernel) zs_103)

set_option maxRecDepth 100000 in
/-- cX2_areBarred(1,) -/
theorem zs_25 : ai_shows zz_fnd zz_ctf zz_ctk zz_N ai_T ai_B1 20000 25 (zz_fr zz_bo) = true := by decide +kernel
theorem zl_26 {sb : ai_SB} (ho : zz_open sb) : ∀ j, j < 26 → ct_ok zz_ctf zz_ctk sb j := ct_more (zl_25 ho) (ct_step (zz_fr zz_bo) zz_hf (zl_25 ho) rfl (by decide +kernel) (by decide +kernel) zs_25)
set_option maxRecDepth 100000 in
/-- cX2_firstBroken(1,) -/
theorem zs_26 : ai_shows zz_fnd zz_ctf zz_ctk zz_N ai_T ai_B1 20000 26 (zz_fr zz_bo) = true := by decide +kernel
theorem zl_27 {sb : ai_SB} (ho : zz_open sb) : ∀ j, j < 27 → ct_ok zz_ctf zz_ctk sb j := ct_more (zl_26 ho) (ct_step (zz_fr zz_bo) zz_hf (zl_26 ho) rfl (by decide +kernel) (by decide +kernel) zs_26)
set_option maxRecDepth 100000 in
/-- cX2_isAhead(1,) -/
theorem zs_27 : ai_shows zz_fnd zz_ctf zz_ctk zz_N ai_T ai_B1 20000 27 (zz_fr zz_bo) = true := by decide +kernel
theorem zl_28 {sb : ai_SB} (ho : zz_open sb) : ∀ j, j < 28 → ct_ok zz_ctf zz_ctk sb j := ct_more (zl_27 ho) (ct_step (zz_fr zz_bo) zz_hf (zl_27 ho) rfl (by decide +kernel) (by decide +kernel) zs_27)
set_option maxRecDepth 100000 in
/-- cX2_handedAhead(1,) -/
theorem zs_28 : ai_shows zz_fnd zz_ctf zz_ctk zz_N ai_T ai_B1 20000 28 (zz_fr zz_bo) = true := by decide +kernel
theorem zl_29 {sb : ai_SB} (ho : zz_open sb) : ∀ j, j < 29 → ct_ok zz_ctf zz_ctk sb j := ct_more (zl_28 ho) (ct_step (zz_fr zz_bo) zz_hf (zl_28 ho) rfl (by decide +kernel) (by decide +kernel) zs_28)
set_option maxRecDepth 100000 in
/-- cX2_latestHanded(1,) -/
theorem zs_29 : ai_shows zz_fnd zz_ctf zz_ctk zz_N ai_T ai_B1 20000 29 (zz_fr zz_bo) = true := by decide +kernel
theorem zl_30 {sb : ai_SB} (ho : zz_open sb) : ∀ j, j < 30 → ct_ok zz_ctf zz_ctk sb j := ct_more (zl_29 ho) (ct_step (zz_fr zz_bo) zz_hf (zl_29 ho) rfl (by decide +kernel) (by decide +kernel) zs_29)
set_option maxRecDepth 100000 in
/-- cX2_likeness(1,) -/
theorem zs_30 : ai_shows zz_fnd zz_ctf zz_ctk zz_N ai_T ai_B1 20000 30 (zz_fr zz_bo) = true := by decide +kernel
theorem zl_31 {sb : ai_SB} (ho : zz_open sb) : ∀ j, j < 31 → ct_ok zz_ctf zz_ctk sb j := ct_more (zl_30 ho) (ct_step (zz_fr zz_bo) zz_hf (zl_30 ho) rfl (by decide +kernel) (by decide +kernel) zs_30)
set_option maxRecDepth 100000 in
/-- cX2_sumOfTellings(1,) -/
theorem zs_31 : ai_shows zz_fnd zz_ctf zz_ctk zz_N ai_T ai_B1 20000 31 (zz_fr zz_bo) = true := by decide +kernel
theorem zl_32 {sb : ai_SB} (ho : zz_open sb) : ∀ j, j < 32 → ct_ok zz_ctf zz_ctk sb j := ct_more (zl_31 ho) (ct_step (zz_fr zz_bo) zz_hf (zl_31 ho) rfl (by decide +kernel) (by decide +kernel) zs_31)
set_option maxRecDepth 100000 in
/-- cX2_tellingAt(1,) -/
theorem zs_32 : ai_shows zz_fnd zz_ctf zz_ctk zz_N ai_T ai_B1 20000 32 (zz_fr zz_bo) = true := by decide +kernel
theorem zl_33 {sb : ai_SB} (ho : zz_open sb) : ∀ j, j < 33 → ct_ok zz_ctf zz_ctk sb j := ct_more (zl_32 ho) (ct_step (zz_fr zz_bo) zz_hf (zl_32 ho) rfl (by decide +kernel) (by decide +kernel) zs_32)
set_option maxRecDepth 100000 in
/-- cX2_tellingsOf(1,) -/
theorem zs_33 : ai_shows zz_fnd zz_ctf zz_ctk zz_N ai_T ai_B1 20000 33 (zz_fr zz_bo) = true := by decide +kernel
theorem zl_34 {sb : ai_SB} (ho : zz_open sb) : ∀ j, j < 34 → ct_ok zz_ctf zz_ctk sb j := ct_more (zl_33 ho) (ct_step (zz_fr zz_bo) zz_hf (zl_33 ho) rfl (by decide +kernel) (by decide +kernel) zs_33)
set_option maxRecDepth 100000 in
/-- cX3_kindHere(26,) -/
theorem zs_34 : ai_shows zz_fnd zz_ctf zz_ctk zz_N ai_T ai_B1 20000 34 (zz_fr zz_bo) = true := by decide +kernel
theorem zl_35 {sb : ai_SB} (ho : zz_open sb) : ∀ j, j < 35 → ct_ok zz_ctf zz_ctk sb j := ct_more (zl_34 ho) (ct_step (zz_fr zz_bo) zz_hf (zl_34 ho) rfl (by decide +kernel) (by decide +kernel) zs_34)
set_option maxRecDepth 100000 in
/-- cX3_kindOf(26,) -/
theorem zs_35 : ai_shows zz_fnd zz_ctf zz_ctk zz_N ai_T ai_B1 20000 35 (zz_fr zz_bo) = true := by decide +kernel
theorem zl_36 {sb : ai_SB} (ho : zz_open sb) : ∀ j, j < 36 → ct_ok zz_ctf zz_ctk sb j := ct_more (zl_35 ho) (ct_step (zz_fr zz_bo) zz_hf (zl_35 ho) rfl (by decide +kernel) (by decide +kernel) zs_35)
set_option maxRecDepth 100000 in
/-- cX3_lettersAt(26,) -/
theorem zs_36 : ai_shows zz_fnd zz_ctf zz_ctk zz_N ai_T ai_B1 20000 36 (zz_fr zz_bo) = true := by decide +kernel
theorem zl_37 {sb : ai_SB} (ho : zz_open sb) : ∀ j, j < 37 → ct_ok zz_ctf zz_ctk sb j := ct_more (zl_36 ho) (ct_step (zz_fr zz_bo) zz_hf (zl_36 ho) rfl (by decide +kernel) (by decide +kernel) zs_36)
set_option maxRecDepth 100000 in
/-- cX3_numberHere(26,) -/
theorem zs_37 : ai_shows zz_fnd zz_ctf zz_ctk zz_N ai_T ai_B1 20000 37 (zz_fr zz_bo) = true := by decide +kernel
theorem zl_38 {sb : ai_SB} (ho : zz_open sb) : ∀ j, j < 38 → ct_ok zz_ctf zz_ctk sb j := ct_more (zl_37 ho) (ct_step (zz_fr zz_bo) zz_hf (zl_37 ho) rfl (by decide +kernel) (by decide +kernel) zs_37)
set_option maxRecDepth 100000 in
/-- cX3_numberOf(26,) -/
theorem zs_38 : ai_shows zz_fnd zz_ctf zz_ctk zz_N ai_T ai_B1 20000 38 (zz_fr zz_bo) = true := by decide +kernel
theorem zl_39 {sb : ai_SB} (ho : zz_open sb) : ∀ j, j < 39 → ct_ok zz_ctf zz_ctk sb j := ct_more (zl_38 ho) (ct_step (zz_fr zz_bo) zz_hf (zl_38 ho) rfl (by decide +kernel) (by decide +kernel) zs_38)
set_option maxRecDepth 100000 in
/-- cX3_readNumber(26,) -/
theorem zs_39 : ai_shows zz_fnd zz_ctf zz_ctk zz_N ai_T ai_B1 20000 39 (zz_fr zz_bo) = true := by decide +kernel
theorem zl_40 {sb : ai_SB} (ho : zz_open sb) : ∀ j, j < 40 → ct_ok zz_ctf zz_ctk sb j := ct_more (zl_39 ho) (ct_step (zz_fr zz_bo) zz_hf (zl_39 ho) rfl (by decide +kernel) (by decide +kernel) zs_39)
set_option maxRecDepth 100000 in
/-- cX3_readLeaf(26,) -/
theorem zs_40 : ai_shows zz_fnd zz_ctf zz_ctk zz_N ai_T ai_B1 20000 40 (zz_fr zz_bo) = true := by decide +kernel
theorem zl_41 {sb : ai_SB} (ho : zz_open sb) : ∀ j, j < 41 → ct_ok zz_ctf zz_ctk sb j := ct_more (zl_40 ho) (ct_step (zz_fr zz_bo) zz_hf (zl_40 ho) rfl (by decide +kernel) (by decide +kernel) zs_40)
set_option maxRecDepth 100000 in
/-- cX3_readLevel(26, 5, 8) -/
theorem zs_41 : ai_shows zz_fnd zz_ctf zz_ctk zz_N ai_T ai_B1 20000 41 (zz_fr ([(197, 20), (195, 19), (199, 19), (191, 18)] ++ zz_bo)) = true := by decide +kernel
theorem zl_42 {sb : ai_SB} (ho : zz_open sb) : ∀ j, j < 42 → ct_ok zz_ctf zz_ctk sb j := ct_more (zl_41 ho) (ct_step (zz_fr ([(197, 20), (195, 19), (199, 19), (191, 18)] ++ zz_bo)) zz_hf (zl_41 ho) rfl (by decide +kernel) (by decide +kernel) zs_41)
set_option maxRecDepth 100000 in
/-- cX3_readLevel(26, 4, 8) -/
theorem zs_42 : ai_shows zz_fnd zz_ctf zz_ctk zz_N ai_T ai_B1 20000 42 (zz_fr ([(197, 28), (195, 27), (199, 27), (191, 26)] ++ zz_bo)) = true := by decide +kernel
theorem zl_43 {sb : ai_SB} (ho : zz_open sb) : ∀ j, j < 43 → ct_ok zz_ctf zz_ctk sb j := ct_more (zl_42 ho) (ct_step (zz_fr ([(197, 28), (195, 27), (199, 27), (191, 26)] ++ zz_bo)) zz_hf (zl_42 ho) rfl (by decide +kernel) (by decide +kernel) zs_42)
set_option maxRecDepth 100000 in
/-- cX3_readLevel(26, 3, 8) -/
theorem zs_43 : ai_shows zz_fnd zz_ctf zz_ctk zz_N ai_T ai_B1 20000 43 (zz_fr ([(197, 36), (195, 35), (199, 35), (191, 34)] ++ zz_bo)) = true := by decide +kernel
theorem zl_44 {sb : ai_SB} (ho : zz_open sb) : ∀ j, j < 44 → ct_ok zz_ctf zz_ctk sb j := ct_more (zl_43 ho) (ct_step (zz_fr ([(197, 36), (195, 35), (199, 35), (191, 34)] ++ zz_bo)) zz_hf (zl_43 ho) rfl (by decide +kernel) (by decide +kernel) zs_43)

set_option maxRecDepth 100000 in
/-- cJ7_fill_53178(37,) -/
theorem zs_3 : ai_shows zz_fnd zz_ctf zz_ctk zz_N ai_T ai_B1 20000 3 (zz_fr zz_bo) = true := by decide +kernel
theorem zl_4 {sb : ai_SB} (ho : zz_open sb) : ∀ j, j < 4 → ct_ok zz_ctf zz_ctk sb j := ct_more (zl_3 ho) (ct_step (zz_fr zz_bo) zz_hf (zl_3 ho) rfl (by decide +kernel) (by decide +kernel) zs_3)
set_option maxRecDepth 100000 in
/-- cJ7_fill_53178(39,) -/
theorem zs_4 : ai_shows zz_fnd zz_ctf zz_ctk zz_N ai_T ai_B1 20000 4 (zz_fr zz_bo) = true := by decide +kernel
theorem zl_5 {sb : ai_SB} (ho : zz_open sb) : ∀ j, j < 5 → ct_ok zz_ctf zz_ctk sb j := ct_more (zl_4 ho) (ct_step (zz_fr zz_bo) zz_hf (zl_4 ho) rfl (by decide +kernel) (by decide +kernel) zs_4)
set_option maxRecDepth 100000 in
/-- cJ7_fill_53178(42,) -/
theorem zs_5 : ai_shows zz_fnd zz_ctf zz_ctk zz_N ai_T ai_B1 20000 5 (zz_fr zz_bo) = true := by decide +kernel
theorem zl_6 {sb : ai_SB} (ho : zz_open sb) : ∀ j, j < 6 → ct_ok zz_ctf zz_ctk sb j := ct_more (zl_5 ho) (ct_step (zz_fr zz_bo) zz_hf (zl_5 ho) rfl (by decide +kernel) (by decide +kernel) zs_5)
set_option maxRecDepth 100000 in
/-- cJ7_fill_53178(43,) -/
theorem zs_6 : ai_shows zz_fnd zz_ctf zz_ctk zz_N ai_T ai_B1 20000 6 (zz_fr zz_bo) = true := by decide +kernel
theorem zl_7 {sb : ai_SB} (ho : zz_open sb) : ∀ j, j < 7 → ct_ok zz_ctf zz_ctk sb j := ct_more (zl_6 ho) (ct_step (zz_fr zz_bo) zz_hf (zl_6 ho) rfl (by decide +kernel) (by decide +kernel) zs_6)
set_option maxRecDepth 100000 in
/-- cJ7_fill_53178(47,) -/
theorem zs_7 : ai_shows zz_fnd zz_ctf zz_ctk zz_N ai_T ai_B1 20000 7 (zz_fr zz_bo) = true := by decide +kernel
theorem zl_8 {sb : ai_SB} (ho : zz_open sb) : ∀ j, j < 8 → ct_ok zz_ctf zz_ctk sb j := ct_more (zl_7 ho) (ct_step (zz_fr zz_bo) zz_hf (zl_7 ho) rfl (by decide +kernel) (by decide +kernel) zs_7)
set_option maxRecDepth 100000 in
/-- cJ7_fill_53178(48,) -/
theorem zs_8 : ai_shows zz_fnd zz_ctf zz_ctk zz_N ai_T ai_B1 20000 8 (zz_fr zz_bo) = true := by decide +kernel
theorem zl_9 {sb : ai_SB} (ho : zz_open sb) : ∀ j, j < 9 → ct_ok zz_ctf zz_ctk sb j := ct_more (zl_8 ho) (ct_step (zz_fr zz_bo) zz_hf (zl_8 ho) rfl (by decide +kernel) (by decide +kernel) zs_8)
set_option maxRecDepth 100000 in
/-- cJ7_fill_53178(51,) -/
theorem zs_9 : ai_shows zz_fnd zz_ctf zz_ctk zz_N ai_T ai_B1 20000 9 (zz_fr zz_bo) = true := by decide +kernel
theorem zl_10 {sb : ai_SB} (ho : zz_open sb) : ∀ j, j < 10 → ct_ok zz_ctf zz_ctk sb j := ct_more (zl_9 ho) (ct_step (zz_fr zz_bo) zz_hf (zl_9 ho) rfl (by decide +kernel) (by decide +kernel) zs_9)
set_option maxRecDepth 100000 in
/-- cJ7_fill_53178(52,) -/
theorem zs_10 : ai_shows zz_fnd zz_ctf zz_ctk zz_N ai_T ai_B1 20000 10 (zz_fr zz_bo) = true := by decide +kernel
theorem zl_11 {sb : ai_SB} (ho : zz_open sb) : ∀ j, j < 11 → ct_ok zz_ctf zz_ctk sb j := ct_more (zl_10 ho) (ct_step (zz_fr zz_bo) zz_hf (zl_10 ho) rfl (by decide +kernel) (by decide +kernel) zs_10)
set_option maxRecDepth 100000 in
/-- cJ7_fill_53178(67,) -/
theorem zs_11 : ai_shows zz_fnd zz_ctf zz_ctk zz_N ai_T ai_B1 20000 11 (zz_fr zz_bo) = true := by decide +kernel
theorem zl_12 {sb : ai_SB} (ho : zz_open sb) : ∀ j, j < 12 → ct_ok zz_ctf zz_ctk sb j := ct_more (zl_11 ho) (ct_step (zz_fr zz_bo) zz_hf (zl_11 ho) rfl (by decide +kernel) (by decide +kernel) zs_11)
set_option maxRecDepth 100000 in
/-- cJ7_fill_d0a16(60,) -/
theorem zs_12 : ai_shows zz_fnd zz_ctf zz_ctk zz_N ai_T ai_B1 20000 12 (zz_fr zz_bo) = true := by decide +kernel
theorem zl_13 {sb : ai_SB} (ho : zz_open sb) : ∀ j, j < 13 → ct_ok zz_ctf zz_ctk sb j := ct_more (zl_12 ho) (ct_step (zz_fr zz_bo) zz_hf (zl_12 ho) rfl (by decide +kernel) (by decide +kernel) zs_12)
set_option maxRecDepth 100000 in
/-- cX0_joined() -/
theorem zs_13 : ai_shows zz_fnd zz_ctf zz_ctk zz_N ai_T ai_B1 20000 13 (zz_fr zz_bo) = true := by decide +kernel
theorem zl_14 {sb : ai_SB} (ho : zz_open sb) : ∀ j, j < 14 → ct_ok zz_ctf zz_ctk sb j := ct_more (zl_13 ho) (ct_step (zz_fr zz_bo) zz_hf (zl_13 ho) rfl (by decide +kernel) (by decide +kernel) zs_13)
set_option maxRecDepth 100000 in
/-- cX0_answer(38,) -/
theorem zs_14 : ai_shows zz_fnd zz_ctf zz_ctk zz_N ai_T ai_B1 20000 14 (zz_fr zz_bo) = true := by decide +kernel
theorem zl_15 {sb : ai_SB} (ho : zz_open sb) : ∀ j, j < 15 → ct_ok zz_ctf zz_ctk sb j := ct_more (zl_14 ho) (ct_step (zz_fr zz_bo) zz_hf (zl_14 ho) rfl (by decide +kernel) (by decide +kernel) zs_14)
set_option maxRecDepth 100000 in
/-- cX1_goOn(65, 7) -/
theorem zs_15 : ai_shows zz_fnd zz_ctf zz_ctk zz_N ai_T ai_B1 20000 15 (zz_fr ([(155, 10)] ++ zz_bo)) = true := by decide +kernel
theorem zl_16 {sb : ai_SB} (ho : zz_open sb) : ∀ j, j < 16 → ct_ok zz_ctf zz_ctk sb j := ct_more (zl_15 ho) (ct_step (zz_fr ([(155, 10)] ++ zz_bo)) zz_hf (zl_15 ho) rfl (by decide +kernel) (by decide +kernel) zs_15)
set_option maxRecDepth 100000 in
/-- cX1_goOn(65, 6) -/
theorem zs_16 : ai_shows zz_fnd zz_ctf zz_ctk zz_N ai_T ai_B1 20000 16 (zz_fr ([(155, 14)] ++ zz_bo)) = true := by decide +kernel
theorem zl_17 {sb : ai_SB} (ho : zz_open sb) : ∀ j, j < 17 → ct_ok zz_ctf zz_ctk sb j := ct_more (zl_16 ho) (ct_step (zz_fr ([(155, 14)] ++ zz_bo)) zz_hf (zl_16 ho) rfl (by decide +kernel) (by decide +kernel) zs_16)
set_option maxRecDepth 100000 in
/-- cX1_goOn(65, 5) -/
theorem zs_17 : ai_shows zz_fnd zz_ctf zz_ctk zz_N ai_T ai_B1 20000 17 (zz_fr ([(155, 18)] ++ zz_bo)) = true := by decide +kernel
theorem zl_18 {sb : ai_SB} (ho : zz_open sb) : ∀ j, j < 18 → ct_ok zz_ctf zz_ctk sb j := ct_more (zl_17 ho) (ct_step (zz_fr ([(155, 18)] ++ zz_bo)) zz_hf (zl_17 ho) rfl (by decide +kernel) (by decide +kernel) zs_17)
set_option maxRecDepth 100000 in
/-- cX1_goOn(65, 4) -/
theorem zs_18 : ai_shows zz_fnd zz_ctf zz_ctk zz_N ai_T ai_B1 20000 18 (zz_fr ([(155, 22)] ++ zz_bo)) = true := by decide +kernel
theorem zl_19 {sb : ai_SB} (ho : zz_open sb) : ∀ j, j < 19 → ct_ok zz_ctf zz_ctk sb j := ct_more (zl_18 ho) (ct_step (zz_fr ([(155, 22)] ++ zz_bo)) zz_hf (zl_18 ho) rfl (by decide +kernel) (by decide +kernel) zs_18)
set_option maxRecDepth 100000 in
/-- cX1_goOn(65, 3) -/
theorem zs_19 : ai_shows zz_fnd zz_ctf zz_ctk zz_N ai_T ai_B1 20000 19 (zz_fr ([(155, 26)] ++ zz_bo)) = true := by decide +kernel
theorem zl_20 {sb : ai_SB} (ho : zz_open sb) : ∀ j, j < 20 → ct_ok zz_ctf zz_ctk sb j := ct_more (zl_19 ho) (ct_step (zz_fr ([(155, 26)] ++ zz_bo)) zz_hf (zl_19 ho) rfl (by decide +kernel) (by decide +kernel) zs_19)
set_option maxRecDepth 100000 in
/-- cX1_goOn(65, 2) -/
theorem zs_20 : ai_shows zz_fnd zz_ctf zz_ctk zz_N ai_T ai_B1 20000 20 (zz_fr ([(155, 30)] ++ zz_bo)) = true := by decide +kernel
theorem zl_21 {sb : ai_SB} (ho : zz_open sb) : ∀ j, j < 21 → ct_ok zz_ctf zz_ctk sb j := ct_more (zl_20 ho) (ct_step (zz_fr ([(155, 30)] ++ zz_bo)) zz_hf (zl_20 ho) rfl (by decide +kernel) (by decide +kernel) zs_20)
set_option maxRecDepth 100000 in
/-- cX1_goOn(65, 1) -/
theorem zs_21 : ai_shows zz_fnd zz_ctf zz_ctk zz_N ai_T ai_B1 20000 21 (zz_fr ([(155, 34)] ++ zz_bo)) = true := by decide +kernel
theorem zl_22 {sb : ai_SB} (ho : zz_open sb) : ∀ j, j < 22 → ct_ok zz_ctf zz_ctk sb j := ct_more (zl_21 ho) (ct_step (zz_fr ([(155, 34)] ++ zz_bo)) zz_hf (zl_21 ho) rfl (by decide +kernel) (by decide +kernel) zs_21)
set_option maxRecDepth 100000 in
/-- cX1_goOn(65, 0) -/
theorem zs_22 : ai_shows zz_fnd zz_ctf zz_ctk zz_N ai_T ai_B1 20000 22 (zz_fr ([(155, 38)] ++ zz_bo)) = true := by decide +kernel
theorem zl_23 {sb : ai_SB} (ho : zz_open sb) : ∀ j, j < 23 → ct_ok zz_ctf zz_ctk sb j := ct_more (zl_22 ho) (ct_step (zz_fr ([(155, 38)] ++ zz_bo)) zz_hf (zl_22 ho) rfl (by decide +kernel) (by decide +kernel) zs_22)
set_option maxRecDepth 100000 in
/-- cX2_distance(1,) -/
theorem zs_23 : ai_shows zz_fnd zz_ctf zz_ctk zz_N ai_T ai_B1 20000 23 (zz_fr zz_bo) = true := by decide +kernel
theorem zl_24 {sb : ai_SB} (ho : zz_open sb) : ∀ j, j < 24 → ct_ok zz_ctf zz_ctk sb j := ct_more (zl_23 ho) (ct_step (zz_fr zz_bo) zz_hf (zl_23 ho) rfl (by decide +kernel) (by decide +kernel) zs_23)
set_option maxRecDepth 100000 in
/-- cX1_set(65,) -/
theorem zs_24 : ai_shows zz_fnd zz_ctf zz_ctk zz_N ai_T ai_B1 20000 24 (zz_fr zz_bo) = true := by decide +kernel
theorem zl_25 {sb : ai_SB} (ho : zz_open sb) : ∀ j, j < 25 → ct_ok zz_ctf zz_ctk sb j := ct_more (zl_24 ho) (ct_step (zz_fr zz_bo) zz_hf (zl_24 ho) rfl (by decide +kernel) (by decide +kernel) zs_24)
set_option maxRecDepth 100000 in
/-- cX2_areBarred(1,) -/
theorem zs_25 : ai_shows zz_fnd zz_ctf zz_ctk zz_N ai_T ai_B1 20000 25 (zz_fr zz_bo) = true := by decide +kernel
theorem zl_26 {sb : ai_SB} (ho : zz_open sb) : ∀ j, j < 26 → ct_ok zz_ctf zz_ctk sb j := ct_more (zl_25 ho) (ct_step (zz_fr zz_bo) zz_hf (zl_25 ho) rfl (by decide +kernel) (by decide +kernel) zs_25)
set_option maxRecDepth 100000 in
/-- cX2_firstBroken(1,) -/
theorem zs_26 : ai_shows zz_fnd zz_ctf zz_ctk zz_N ai_T ai_B1 20000 26 (zz_fr zz_bo) = true := by decide +kernel
theorem zl_27 {sb : ai_SB} (ho : zz_open sb) : ∀ j, j < 27 → ct_ok zz_ctf zz_ctk sb j := ct_more (zl_26 ho) (ct_step (zz_fr zz_bo) zz_hf (zl_26 ho) rfl (by decide +kernel) (by decide +kernel) zs_26)
set_option maxRecDepth 100000 in
/-- cX2_isAhead(1,) -/
theorem zs_27 : ai_shows zz_fnd zz_ctf zz_ctk zz_N ai_T ai_B1 20000 27 (zz_fr zz_bo) = true := by decide +kernel
theorem zl_28 {sb : ai_SB} (ho : zz_open sb) : ∀ j, j < 28 → ct_ok zz_ctf zz_ctk sb j := ct_more (zl_27 ho) (ct_step (zz_fr zz_bo) zz_hf (zl_27 ho) rfl (by decide +kernel) (by decide +kernel) zs_27)

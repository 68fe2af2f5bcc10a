set_option maxRecDepth 100000 in
/-- cX2_handedAhead(1,) -/
theorem zs_28 : ai_shows zz_fnd zz_ctf zz_ctk zz_N ai_T ai_B1 20000 28 (zz_fr zz_bo) = true := by decide +kernel
theorem zl_29 {sb : ai_SB} (ho : zz_open sb) : ∀ j, j < 29 → ct_ok zz_ctf zz_ctk sb j := ct_more (zl_28 ho) (ct_step (zz_fr zz_bo) zz_hf (zl_28 ho) rfl (by decide +kernel) (by decide +kernel) zs_28)
set_option maxRecDepth 100000 in
/-- cX2_latestHanded(1,) -/
theorem zs_29 : ai_shows zz_fnd zz_ctf zz_ctk zz_N ai_T ai_B1 20000 29 (zz_fr zz_bo) = true := by decide +kernel
theorem zl_30 {sb : ai_SB} (ho : zz_open sb) : ∀ j, j < 30 → ct_ok zz_ctf zz_ctk sb j := ct_more (zl_29 ho) (ct_step (zz_fr zz_bo) zz_hf (zl_29 ho) rfl (by decide +kernel) (by decide +kernel) zs_29)
set_option maxRecDepth 100000 in
/-- cX2_likeness(1,) -/
theorem zs_30 : ai_shows zz_fnd zz_ctf zz_ctk zz_N ai_T ai_B1 20000 30 (zz_fr zz_bo) = true := by decide +kernel
theorem zl_31 {sb : ai_SB} (ho : zz_open sb) : ∀ j, j < 31 → ct_ok zz_ctf zz_ctk sb j := ct_more (zl_30 ho) (ct_step (zz_fr zz_bo) zz_hf (zl_30 ho) rfl (by decide +kernel) (by decide +kernel) zs_30)
set_option maxRecDepth 100000 in
/-- cX2_sumOfTellings(1,) -/
theorem zs_31 : ai_shows zz_fnd zz_ctf zz_ctk zz_N ai_T ai_B1 20000 31 (zz_fr zz_bo) = true := by decide +kernel
theorem zl_32 {sb : ai_SB} (ho : zz_open sb) : ∀ j, j < 32 → ct_ok zz_ctf zz_ctk sb j := ct_more (zl_31 ho) (ct_step (zz_fr zz_bo) zz_hf (zl_31 ho) rfl (by decide +kernel) (by decide +kernel) zs_31)
set_option maxRecDepth 100000 in
/-- cX2_tellingAt(1,) -/
theorem zs_32 : ai_shows zz_fnd zz_ctf zz_ctk zz_N ai_T ai_B1 20000 32 (zz_fr zz_bo) = true := by decide +kernel
theorem zl_33 {sb : ai_SB} (ho : zz_open sb) : ∀ j, j < 33 → ct_ok zz_ctf zz_ctk sb j := ct_more (zl_32 ho) (ct_step (zz_fr zz_bo) zz_hf (zl_32 ho) rfl (by decide +kernel) (by decide +kernel) zs_32)
set_option maxRecDepth 100000 in
/-- cX2_tellingsOf(1,) -/
theorem zs_33 : ai_shows zz_fnd zz_ctf zz_ctk zz_N ai_T ai_B1 20000 33 (zz_fr zz_bo) = true := by decide +kernel
theorem zl_34 {sb : ai_SB} (ho : zz_open sb) : ∀ j, j < 34 → ct_ok zz_ctf zz_ctk sb j := ct_more (zl_33 ho) (ct_step (zz_fr zz_bo) zz_hf (zl_33 ho) rfl (by decide +kernel) (by decide +kernel) zs_33)
set_option maxRecDepth 100000 in
/-- cX3_kindHere(26,) -/
theorem zs_34 : ai_shows zz_fnd zz_ctf zz_ctk zz_N ai_T ai_B1 20000 34 (zz_fr zz_bo) = true := by decide +kernel
theorem zl_35 {sb : ai_SB} (ho : zz_open sb) : ∀ j, j < 35 → ct_ok zz_ctf zz_ctk sb j := ct_more (zl_34 ho) (ct_step (zz_fr zz_bo) zz_hf (zl_34 ho) rfl (by decide +kernel) (by decide +kernel) zs_34)
set_option maxRecDepth 100000 in
/-- cX3_kindOf(26,) -/
theorem zs_35 : ai_shows zz_fnd zz_ctf zz_ctk zz_N ai_T ai_B1 20000 35 (zz_fr zz_bo) = true := by decide +kernel
theorem zl_36 {sb : ai_SB} (ho : zz_open sb) : ∀ j, j < 36 → ct_ok zz_ctf zz_ctk sb j := ct_more (zl_35 ho) (ct_step (zz_fr zz_bo) zz_hf (zl_35 ho) rfl (by decide +kernel) (by decide +kernel) zs_35)
set_option maxRecDepth 100000 in
/-- cX3_lettersAt(26,) -/
theorem zs_36 : ai_shows zz_fnd zz_ctf zz_ctk zz_N ai_T ai_B1 20000 36 (zz_fr zz_bo) = true := by decide +kernel
theorem zl_37 {sb : ai_SB} (ho : zz_open sb) : ∀ j, j < 37 → ct_ok zz_ctf zz_ctk sb j := ct_more (zl_36 ho) (ct_step (zz_fr zz_bo) zz_hf (zl_36 ho) rfl (by decide +kernel) (by decide +kernel) zs_36)
set_option maxRecDepth 100000 in
/-- cX3_numberHere(26,) -/
theorem zs_37 : ai_shows zz_fnd zz_ctf zz_ctk zz_N ai_T ai_B1 20000 37 (zz_fr zz_bo) = true := by decide +kernel
theorem zl_38 {sb : ai_SB} (ho : zz_open sb) : ∀ j, j < 38 → ct_ok zz_ctf zz_ctk sb j := ct_more (zl_37 ho) (ct_step (zz_fr zz_bo) zz_hf (zl_37 ho) rfl (by decide +kernel) (by decide +kernel) zs_37)
set_option maxRecDepth 100000 in
/-- cX3_numberOf(26,) -/
theorem zs_38 : ai_shows zz_fnd zz_ctf zz_ctk zz_N ai_T ai_B1 20000 38 (zz_fr zz_bo) = true := by decide +kernel
theorem zl_39 {sb : ai_SB} (ho : zz_open sb) : ∀ j, j < 39 → ct_ok zz_ctf zz_ctk sb j := ct_more (zl_38 ho) (ct_step (zz_fr zz_bo) zz_hf (zl_38 ho) rfl (by decide +kernel) (by decide +kernel) zs_38)
set_option maxRecDepth 100000 in
/-- cX3_readNumber(26,) -/
theorem zs_39 : ai_shows zz_fnd zz_ctf zz_ctk zz_N ai_T ai_B1 20000 39 (zz_fr zz_bo) = true := by decide +kernel
theorem zl_40 {sb : ai_SB} (ho : zz_open sb) : ∀ j, j < 40 → ct_ok zz_ctf zz_ctk sb j := ct_more (zl_39 ho) (ct_step (zz_fr zz_bo) zz_hf (zl_39 ho) rfl (by decide +kernel) (by decide +kernel) zs_39)
set_option maxRecDepth 100000 in
/-- cX3_readLeaf(26,) -/
theorem zs_40 : ai_shows zz_fnd zz_ctf zz_ctk zz_N ai_T ai_B1 20000 40 (zz_fr zz_bo) = true := by decide +kernel
theorem zl_41 {sb : ai_SB} (ho : zz_open sb) : ∀ j, j < 41 → ct_ok zz_ctf zz_ctk sb j := ct_more (zl_40 ho) (ct_step (zz_fr zz_bo) zz_hf (zl_40 ho) rfl (by decide +kernel) (by decide +kernel) zs_40)
set_option maxRecDepth 100000 in
/-- cX3_readLevel(26, 5, 8) -/
theorem zs_41 : ai_shows zz_fnd zz_ctf zz_ctk zz_N ai_T ai_B1 20000 41 (zz_fr ([(197, 20), (195, 19), (199, 19), (191, 18)] ++ zz_bo)) = true := by decide +kernel
theorem zl_42 {sb : ai_SB} (ho : zz_open sb) : ∀ j, j < 42 → ct_ok zz_ctf zz_ctk sb j := ct_more (zl_41 ho) (ct_step (zz_fr ([(197, 20), (195, 19), (199, 19), (191, 18)] ++ zz_bo)) zz_hf (zl_41 ho) rfl (by decide +kernel) (by decide +kernel) zs_41)
set_option maxRecDepth 100000 in
/-- cX3_readLevel(26, 4, 8) -/
theorem zs_42 : ai_shows zz_fnd zz_ctf zz_ctk zz_N ai_T ai_B1 20000 42 (zz_fr ([(197, 28), (195, 27), (199, 27), (191, 26)] ++ zz_bo)) = true := by decide +kernel
theorem zl_43 {sb : ai_SB} (ho : zz_open sb) : ∀ j, j < 43 → ct_ok zz_ctf zz_ctk sb j := ct_more (zl_42 ho) (ct_step (zz_fr ([(197, 28), (195, 27), (199, 27), (191, 26)] ++ zz_bo)) zz_hf (zl_42 ho) rfl (by decide +kernel) (by decide +kernel) zs_42)
set_option maxRecDepth 100000 in
/-- cX3_readLevel(26, 3, 8) -/
theorem zs_43 : ai_shows zz_fnd zz_ctf zz_ctk zz_N ai_T ai_B1 20000 43 (zz_fr ([(197, 36), (195, 35), (199, 35), (191, 34)] ++ zz_bo)) = true := by decide +kernel
theorem zl_44 {sb : ai_SB} (ho : zz_open sb) : ∀ j, j < 44 → ct_ok zz_ctf zz_ctk sb j := ct_more (zl_43 ho) (ct_step (zz_fr ([(197, 36), (195, 35), (199, 35), (191, 34)] ++ zz_bo)) zz_hf (zl_43 ho) rfl (by decide +kernel) (by decide +kernel) zs_43)
set_option maxRecDepth 100000 in
/-- cX3_takes(26,) -/
theorem zs_44 : ai_shows zz_fnd zz_ctf zz_ctk zz_N ai_T ai_B1 20000 44 (zz_fr zz_bo) = true := by decide +kernel
theorem zl_45 {sb : ai_SB} (ho : zz_open sb) : ∀ j, j < 45 → ct_ok zz_ctf zz_ctk sb j := ct_more (zl_44 ho) (ct_step (zz_fr zz_bo) zz_hf (zl_44 ho) rfl (by decide +kernel) (by decide +kernel) zs_44)
set_option maxRecDepth 100000 in
/-- cX3_readLevel(26, 5, 7) -/
theorem zs_45 : ai_shows zz_fnd zz_ctf zz_ctk zz_N ai_T ai_B1 20000 45 (zz_fr ([(197, 68), (195, 67), (199, 67), (191, 66)] ++ zz_bo)) = true := by decide +kernel
theorem zl_46 {sb : ai_SB} (ho : zz_open sb) : ∀ j, j < 46 → ct_ok zz_ctf zz_ctk sb j := ct_more (zl_45 ho) (ct_step (zz_fr ([(197, 68), (195, 67), (199, 67), (191, 66)] ++ zz_bo)) zz_hf (zl_45 ho) rfl (by decide +kernel) (by decide +kernel) zs_45)
set_option maxRecDepth 100000 in
/-- cX3_readLevel(26, 4, 7) -/
theorem zs_46 : ai_shows zz_fnd zz_ctf zz_ctk zz_N ai_T ai_B1 20000 46 (zz_fr ([(197, 76), (195, 75), (199, 75), (191, 74)] ++ zz_bo)) = true := by decide +kernel
theorem zl_47 {sb : ai_SB} (ho : zz_open sb) : ∀ j, j < 47 → ct_ok zz_ctf zz_ctk sb j := ct_more (zl_46 ho) (ct_step (zz_fr ([(197, 76), (195, 75), (199, 75), (191, 74)] ++ zz_bo)) zz_hf (zl_46 ho) rfl (by decide +kernel) (by decide +kernel) zs_46)
set_option maxRecDepth 100000 in
/-- cX3_readLevel(26, 3, 7) -/
theorem zs_47 : ai_shows zz_fnd zz_ctf zz_ctk zz_N ai_T ai_B1 20000 47 (zz_fr ([(197, 84), (195, 83), (199, 83), (191, 82)] ++ zz_bo)) = true := by decide +kernel
theorem zl_48 {sb : ai_SB} (ho : zz_open sb) : ∀ j, j < 48 → ct_ok zz_ctf zz_ctk sb j := ct_more (zl_47 ho) (ct_step (zz_fr ([(197, 84), (195, 83), (199, 83), (191, 82)] ++ zz_bo)) zz_hf (zl_47 ho) rfl (by decide +kernel) (by decide +kernel) zs_47)
set_option maxRecDepth 100000 in
/-- cX3_readLevel(26, 5, 6) -/
theorem zs_48 : ai_shows zz_fnd zz_ctf zz_ctk zz_N ai_T ai_B1 20000 48 (zz_fr ([(197, 116), (195, 115), (199, 115), (191, 114)] ++ zz_bo)) = true := by decide +kernel
theorem zl_49 {sb : ai_SB} (ho : zz_open sb) : ∀ j, j < 49 → ct_ok zz_ctf zz_ctk sb j := ct_more (zl_48 ho) (ct_step (zz_fr ([(197, 116), (195, 115), (199, 115), (191, 114)] ++ zz_bo)) zz_hf (zl_48 ho) rfl (by decide +kernel) (by decide +kernel) zs_48)
set_option maxRecDepth 100000 in
/-- cX3_readLevel(26, 4, 6) -/
theorem zs_49 : ai_shows zz_fnd zz_ctf zz_ctk zz_N ai_T ai_B1 20000 49 (zz_fr ([(197, 124), (195, 123), (199, 123), (191, 122)] ++ zz_bo)) = true := by decide +kernel
theorem zl_50 {sb : ai_SB} (ho : zz_open sb) : ∀ j, j < 50 → ct_ok zz_ctf zz_ctk sb j := ct_more (zl_49 ho) (ct_step (zz_fr ([(197, 124), (195, 123), (199, 123), (191, 122)] ++ zz_bo)) zz_hf (zl_49 ho) rfl (by decide +kernel) (by decide +kernel) zs_49)
set_option maxRecDepth 100000 in
/-- cX3_readLevel(26, 3, 6) -/
theorem zs_50 : ai_shows zz_fnd zz_ctf zz_ctk zz_N ai_T ai_B1 20000 50 (zz_fr ([(197, 132), (195, 131), (199, 131), (191, 130)] ++ zz_bo)) = true := by decide +kernel
theorem zl_51 {sb : ai_SB} (ho : zz_open sb) : ∀ j, j < 51 → ct_ok zz_ctf zz_ctk sb j := ct_more (zl_50 ho) (ct_step (zz_fr ([(197, 132), (195, 131), (199, 131), (191, 130)] ++ zz_bo)) zz_hf (zl_50 ho) rfl (by decide +kernel) (by decide +kernel) zs_50)
set_option maxRecDepth 100000 in
/-- cX3_readLevel(26, 5, 5) -/
theorem zs_51 : ai_shows zz_fnd zz_ctf zz_ctk zz_N ai_T ai_B1 20000 51 (zz_fr ([(197, 164), (195, 163), (199, 163), (191, 162)] ++ zz_bo)) = true := by decide +kernel
theorem zl_52 {sb : ai_SB} (ho : zz_open sb) : ∀ j, j < 52 → ct_ok zz_ctf zz_ctk sb j := ct_more (zl_51 ho) (ct_step (zz_fr ([(197, 164), (195, 163), (199, 163), (191, 162)] ++ zz_bo)) zz_hf (zl_51 ho) rfl (by decide +kernel) (by decide +kernel) zs_51)

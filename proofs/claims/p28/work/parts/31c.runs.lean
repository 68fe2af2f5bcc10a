set_option maxRecDepth 100000 in
/-- cX3_takes(26,) -/
theorem zs_44 : ai_shows zz_fnd zz_ctf zz_ctk zz_N ai_T ai_B1 20000 44 (zz_fr zz_bo) = true := by decide +kernel
theorem zl_45 {sb : ai_SB} (ho : zz_open sb) : ∀ j, j < 45 → ct_ok zz_ctf zz_ctk sb j := ct_more (zl_44 ho) (ct_step (zz_fr zz_bo) zz_hf (zl_44 ho) rfl (by decide +kernel) (by decide +kernel) zs_44)
set_option maxRecDepth 100000 in
/-- cX3_readLevel(26, 5, 7) -/
theorem zs_45 : ai_shows zz_fnd zz_ctf zz_ctk zz_N ai_T ai_B1 20000 45 (zz_fr ([(197, 68), (195, 67), (199, 67), (191, 66)] ++ zz_bo)) = true := by decide +kernel
theorem zl_46 {sb : ai_SB} (ho : zz_open sb) : ∀ j, j < 46 → ct_ok zz_ctf zz_ctk sb j := ct_more (zl_45 ho) (ct_step (zz_fr ([(197, 68), (195, 67), (199, 67), (191, 66)] ++ zz_bo)) zz_hf (zl_45 ho) rfl (by decide +kernel) (by decide +kernel) zs_45)
set_option maxRecDepth 100000 in
/-- cX3_readLevel(26, 4, 7) -/
theorem zs_46 : ai_shows zz_fnd zz_ctf zz_ctk zz_N ai_T ai_B1 20000 46 (zz_fr ([(197, 76), (195, 75), (199, 75), (191, 74)] ++ zz_bo)) = true := by decide +kernel
theorem zl_47 {sb : ai_SB} (ho : zz_open sb) : ∀ j, j < 47 → ct_ok zz_ctf zz_ctk sb j := ct_more (zl_46 ho) (ct_step (zz_fr ([(197, 76), (195, 75), (199, 75), (191, 74)] ++ zz_bo)) zz_hf (zl_46 ho) rfl (by decide +kernel) (by decide +kernel) zs_46)
set_option maxRecDepth 100000 in
/-- cX3_readLevel(26, 3, 7) -/
theorem zs_47 : ai_shows zz_fnd zz_ctf zz_ctk zz_N ai_T ai_B1 20000 47 (zz_fr ([(197, 84), (195, 83), (199, 83), (191, 82)] ++ zz_bo)) = true := by decide +kernel
theorem zl_48 {sb : ai_SB} (ho : zz_open sb) : ∀ j, j < 48 → ct_ok zz_ctf zz_ctk sb j := ct_more (zl_47 ho) (ct_step (zz_fr ([(197, 84), (195, 83), (199, 83), (191, 82)] ++ zz_bo)) zz_hf (zl_47 ho) rfl (by decide +kernel) (by decide +kernel) zs_47)
set_option maxRecDepth 100000 in
/-- cX3_readLevel(26, 5, 6) -/
theorem zs_48 : ai_shows zz_fnd zz_ctf zz_ctk zz_N ai_T ai_B1 20000 48 (zz_fr ([(197, 116), (195, 115), (199, 115), (191, 114)] ++ zz_bo)) = true := by decide +kernel
theorem zl_49 {sb : ai_SB} (ho : zz_open sb) : ∀ j, j < 49 → ct_ok zz_ctf zz_ctk sb j := ct_more (zl_48 ho) (ct_step (zz_fr ([(197, 116), (195, 115), (199, 115), (191, 114)] ++ zz_bo)) zz_hf (zl_48 ho) rfl (by decide +kernel) (by decide +kernel) zs_48)
set_option maxRecDepth 100000 in
/-- cX3_readLevel(26, 4, 6) -/
theorem zs_49 : ai_shows zz_fnd zz_ctf zz_ctk zz_N ai_T ai_B1 20000 49 (zz_fr ([(197, 124), (195, 123), (199, 123), (191, 122)] ++ zz_bo)) = true := by decide +kernel
theorem zl_50 {sb : ai_SB} (ho : zz_open sb) : ∀ j, j < 50 → ct_ok zz_ctf zz_ctk sb j := ct_more (zl_49 ho) (ct_step (zz_fr ([(197, 124), (195, 123), (199, 123), (191, 122)] ++ zz_bo)) zz_hf (zl_49 ho) rfl (by decide +kernel) (by decide +kernel) zs_49)
set_option maxRecDepth 100000 in
/-- cX3_readLevel(26, 3, 6) -/
theorem zs_50 : ai_shows zz_fnd zz_ctf zz_ctk zz_N ai_T ai_B1 20000 50 (zz_fr ([(197, 132), (195, 131), (199, 131), (191, 130)] ++ zz_bo)) = true := by decide +kernel
theorem zl_51 {sb : ai_SB} (ho : zz_open sb) : ∀ j, j < 51 → ct_ok zz_ctf zz_ctk sb j := ct_more (zl_50 ho) (ct_step (zz_fr ([(197, 132), (195, 131), (199, 131), (191, 130)] ++ zz_bo)) zz_hf (zl_50 ho) rfl (by decide +kernel) (by decide +kernel) zs_50)
set_option maxRecDepth 100000 in
/-- cX3_readLevel(26, 5, 5) -/
theorem zs_51 : ai_shows zz_fnd zz_ctf zz_ctk zz_N ai_T ai_B1 20000 51 (zz_fr ([(197, 164), (195, 163), (199, 163), (191, 162)] ++ zz_bo)) = true := by decide +kernel
theorem zl_52 {sb : ai_SB} (ho : zz_open sb) : ∀ j, j < 52 → ct_ok zz_ctf zz_ctk sb j := ct_more (zl_51 ho) (ct_step (zz_fr ([(197, 164), (195, 163), (199, 163), (191, 162)] ++ zz_bo)) zz_hf (zl_51 ho) rfl (by decide +kernel) (by decide +kernel) zs_51)
set_option maxRecDepth 100000 in
/-- cX3_readLevel(26, 4, 5) -/
theorem zs_52 : ai_shows zz_fnd zz_ctf zz_ctk zz_N ai_T ai_B1 20000 52 (zz_fr ([(197, 172), (195, 171), (199, 171), (191, 170)] ++ zz_bo)) = true := by decide +kernel
theorem zl_53 {sb : ai_SB} (ho : zz_open sb) : ∀ j, j < 53 → ct_ok zz_ctf zz_ctk sb j := ct_more (zl_52 ho) (ct_step (zz_fr ([(197, 172), (195, 171), (199, 171), (191, 170)] ++ zz_bo)) zz_hf (zl_52 ho) rfl (by decide +kernel) (by decide +kernel) zs_52)
set_option maxRecDepth 100000 in
/-- cX3_readLevel(26, 3, 5) -/
theorem zs_53 : ai_shows zz_fnd zz_ctf zz_ctk zz_N ai_T ai_B1 20000 53 (zz_fr ([(197, 180), (195, 179), (199, 179), (191, 178)] ++ zz_bo)) = true := by decide +kernel
theorem zl_54 {sb : ai_SB} (ho : zz_open sb) : ∀ j, j < 54 → ct_ok zz_ctf zz_ctk sb j := ct_more (zl_53 ho) (ct_step (zz_fr ([(197, 180), (195, 179), (199, 179), (191, 178)] ++ zz_bo)) zz_hf (zl_53 ho) rfl (by decide +kernel) (by decide +kernel) zs_53)
set_option maxRecDepth 100000 in
/-- cX3_readLevel(26, 5, 4) -/
theorem zs_54 : ai_shows zz_fnd zz_ctf zz_ctk zz_N ai_T ai_B1 20000 54 (zz_fr ([(197, 212), (195, 211), (199, 211), (191, 210)] ++ zz_bo)) = true := by decide +kernel
theorem zl_55 {sb : ai_SB} (ho : zz_open sb) : ∀ j, j < 55 → ct_ok zz_ctf zz_ctk sb j := ct_more (zl_54 ho) (ct_step (zz_fr ([(197, 212), (195, 211), (199, 211), (191, 210)] ++ zz_bo)) zz_hf (zl_54 ho) rfl (by decide +kernel) (by decide +kernel) zs_54)
set_option maxRecDepth 100000 in
/-- cX3_readLevel(26, 4, 4) -/
theorem zs_55 : ai_shows zz_fnd zz_ctf zz_ctk zz_N ai_T ai_B1 20000 55 (zz_fr ([(197, 220), (195, 219), (199, 219), (191, 218)] ++ zz_bo)) = true := by decide +kernel
theorem zl_56 {sb : ai_SB} (ho : zz_open sb) : ∀ j, j < 56 → ct_ok zz_ctf zz_ctk sb j := ct_more (zl_55 ho) (ct_step (zz_fr ([(197, 220), (195, 219), (199, 219), (191, 218)] ++ zz_bo)) zz_hf (zl_55 ho) rfl (by decide +kernel) (by decide +kernel) zs_55)
set_option maxRecDepth 100000 in
/-- cX3_readLevel(26, 3, 4) -/
theorem zs_56 : ai_shows zz_fnd zz_ctf zz_ctk zz_N ai_T ai_B1 20000 56 (zz_fr ([(197, 228), (195, 227), (199, 227), (191, 226)] ++ zz_bo)) = true := by decide +kernel
theorem zl_57 {sb : ai_SB} (ho : zz_open sb) : ∀ j, j < 57 → ct_ok zz_ctf zz_ctk sb j := ct_more (zl_56 ho) (ct_step (zz_fr ([(197, 228), (195, 227), (199, 227), (191, 226)] ++ zz_bo)) zz_hf (zl_56 ho) rfl (by decide +kernel) (by decide +kernel) zs_56)
set_option maxRecDepth 100000 in
/-- cX3_readLevel(26, 5, 3) -/
theorem zs_57 : ai_shows zz_fnd zz_ctf zz_ctk zz_N ai_T ai_B1 20000 57 (zz_fr ([(197, 260), (195, 259), (199, 259), (191, 258)] ++ zz_bo)) = true := by decide +kernel
theorem zl_58 {sb : ai_SB} (ho : zz_open sb) : ∀ j, j < 58 → ct_ok zz_ctf zz_ctk sb j := ct_more (zl_57 ho) (ct_step (zz_fr ([(197, 260), (195, 259), (199, 259), (191, 258)] ++ zz_bo)) zz_hf (zl_57 ho) rfl (by decide +kernel) (by decide +kernel) zs_57)
set_option maxRecDepth 100000 in
/-- cX3_readLevel(26, 4, 3) -/
theorem zs_58 : ai_shows zz_fnd zz_ctf zz_ctk zz_N ai_T ai_B1 20000 58 (zz_fr ([(197, 268), (195, 267), (199, 267), (191, 266)] ++ zz_bo)) = true := by decide +kernel
theorem zl_59 {sb : ai_SB} (ho : zz_open sb) : ∀ j, j < 59 → ct_ok zz_ctf zz_ctk sb j := ct_more (zl_58 ho) (ct_step (zz_fr ([(197, 268), (195, 267), (199, 267), (191, 266)] ++ zz_bo)) zz_hf (zl_58 ho) rfl (by decide +kernel) (by decide +kernel) zs_58)
set_option maxRecDepth 100000 in
/-- cX3_readLevel(26, 3, 3) -/
theorem zs_59 : ai_shows zz_fnd zz_ctf zz_ctk zz_N ai_T ai_B1 20000 59 (zz_fr ([(197, 276), (195, 275), (199, 275), (191, 274)] ++ zz_bo)) = true := by decide +kernel
theorem zl_60 {sb : ai_SB} (ho : zz_open sb) : ∀ j, j < 60 → ct_ok zz_ctf zz_ctk sb j := ct_more (zl_59 ho) (ct_step (zz_fr ([(197, 276), (195, 275), (199, 275), (191, 274)] ++ zz_bo)) zz_hf (zl_59 ho) rfl (by decide +kernel) (by decide +kernel) zs_59)

set_option maxRecDepth 100000 in
/-- cX3_readLevel(26, 2, 8) -/
theorem zs_43 : ai_shows zz_fnd zz_ctf zz_ctk zz_N ai_T ai_B1 20000 43 (zz_fr ([(197, 44), (195, 43), (199, 43), (191, 42)] ++ zz_bo)) = true := by decide +kernel
theorem zl_44 {sb : Nat} (ho : zz_open sb) : ∀ j, j < 44 → ct_ok zz_ctf zz_ctk sb j := ct_more (zl_43 ho) (ct_step (zz_fr ([(197, 44), (195, 43), (199, 43), (191, 42)] ++ zz_bo)) zz_hf (zl_43 ho) rfl (by decide +kernel) (by decide +kernel) zs_43)
set_option maxRecDepth 100000 in
/-- cX3_readLevel(26, 1, 8) -/
theorem zs_44 : ai_shows zz_fnd zz_ctf zz_ctk zz_N ai_T ai_B1 20000 44 (zz_fr ([(197, 52), (195, 51), (199, 51), (191, 50)] ++ zz_bo)) = true := by decide +kernel
theorem zl_45 {sb : Nat} (ho : zz_open sb) : ∀ j, j < 45 → ct_ok zz_ctf zz_ctk sb j := ct_more (zl_44 ho) (ct_step (zz_fr ([(197, 52), (195, 51), (199, 51), (191, 50)] ++ zz_bo)) zz_hf (zl_44 ho) rfl (by decide +kernel) (by decide +kernel) zs_44)
set_option maxRecDepth 100000 in
/-- cX3_readLevel(26, 0, 8) -/
theorem zs_45 : ai_shows zz_fnd zz_ctf zz_ctk zz_N ai_T ai_B1 20000 45 (zz_fr ([(197, 60), (195, 59), (199, 59), (191, 58)] ++ zz_bo)) = true := by decide +kernel
theorem zl_46 {sb : Nat} (ho : zz_open sb) : ∀ j, j < 46 → ct_ok zz_ctf zz_ctk sb j := ct_more (zl_45 ho) (ct_step (zz_fr ([(197, 60), (195, 59), (199, 59), (191, 58)] ++ zz_bo)) zz_hf (zl_45 ho) rfl (by decide +kernel) (by decide +kernel) zs_45)
set_option maxRecDepth 100000 in
/-- cX3_readLevel(26, 5, 7) -/
theorem zs_46 : ai_shows zz_fnd zz_ctf zz_ctk zz_N ai_T ai_B1 20000 46 (zz_fr ([(197, 68), (195, 67), (199, 67), (191, 66)] ++ zz_bo)) = true := by decide +kernel
theorem zl_47 {sb : Nat} (ho : zz_open sb) : ∀ j, j < 47 → ct_ok zz_ctf zz_ctk sb j := ct_more (zl_46 ho) (ct_step (zz_fr ([(197, 68), (195, 67), (199, 67), (191, 66)] ++ zz_bo)) zz_hf (zl_46 ho) rfl (by decide +kernel) (by decide +kernel) zs_46)
set_option maxRecDepth 100000 in
/-- cX3_readLevel(26, 4, 7) -/
theorem zs_47 : ai_shows zz_fnd zz_ctf zz_ctk zz_N ai_T ai_B1 20000 47 (zz_fr ([(197, 76), (195, 75), (199, 75), (191, 74)] ++ zz_bo)) = true := by decide +kernel
theorem zl_48 {sb : Nat} (ho : zz_open sb) : ∀ j, j < 48 → ct_ok zz_ctf zz_ctk sb j := ct_more (zl_47 ho) (ct_step (zz_fr ([(197, 76), (195, 75), (199, 75), (191, 74)] ++ zz_bo)) zz_hf (zl_47 ho) rfl (by decide +kernel) (by decide +kernel) zs_47)
set_option maxRecDepth 100000 in
/-- cX3_readLevel(26, 3, 7) -/
theorem zs_48 : ai_shows zz_fnd zz_ctf zz_ctk zz_N ai_T ai_B1 20000 48 (zz_fr ([(197, 84), (195, 83), (199, 83), (191, 82)] ++ zz_bo)) = true := by decide +kernel
theorem zl_49 {sb : Nat} (ho : zz_open sb) : ∀ j, j < 49 → ct_ok zz_ctf zz_ctk sb j := ct_more (zl_48 ho) (ct_step (zz_fr ([(197, 84), (195, 83), (199, 83), (191, 82)] ++ zz_bo)) zz_hf (zl_48 ho) rfl (by decide +kernel) (by decide +kernel) zs_48)
set_option maxRecDepth 100000 in
/-- cX3_readPlain(26, 7) -/
theorem zs_49 : ai_shows zz_fnd zz_ctf zz_ctk zz_N ai_T ai_B1 20000 49 (zz_fr ([(201, 90), (194, 89), (191, 89)] ++ zz_bo)) = true := by decide +kernel
theorem zl_50 {sb : Nat} (ho : zz_open sb) : ∀ j, j < 50 → ct_ok zz_ctf zz_ctk sb j := ct_more (zl_49 ho) (ct_step (zz_fr ([(201, 90), (194, 89), (191, 89)] ++ zz_bo)) zz_hf (zl_49 ho) rfl (by decide +kernel) (by decide +kernel) zs_49)
set_option maxRecDepth 100000 in
/-- cX3_readLevel(26, 2, 7) -/
theorem zs_50 : ai_shows zz_fnd zz_ctf zz_ctk zz_N ai_T ai_B1 20000 50 (zz_fr ([(197, 92), (195, 91), (199, 91), (191, 90)] ++ zz_bo)) = true := by decide +kernel
theorem zl_51 {sb : Nat} (ho : zz_open sb) : ∀ j, j < 51 → ct_ok zz_ctf zz_ctk sb j := ct_more (zl_50 ho) (ct_step (zz_fr ([(197, 92), (195, 91), (199, 91), (191, 90)] ++ zz_bo)) zz_hf (zl_50 ho) rfl (by decide +kernel) (by decide +kernel) zs_50)
set_option maxRecDepth 100000 in
/-- cX3_readLevel(26, 1, 7) -/
theorem zs_51 : ai_shows zz_fnd zz_ctf zz_ctk zz_N ai_T ai_B1 20000 51 (zz_fr ([(197, 100), (195, 99), (199, 99), (191, 98)] ++ zz_bo)) = true := by decide +kernel
theorem zl_52 {sb : Nat} (ho : zz_open sb) : ∀ j, j < 52 → ct_ok zz_ctf zz_ctk sb j := ct_more (zl_51 ho) (ct_step (zz_fr ([(197, 100), (195, 99), (199, 99), (191, 98)] ++ zz_bo)) zz_hf (zl_51 ho) rfl (by decide +kernel) (by decide +kernel) zs_51)
set_option maxRecDepth 100000 in
/-- cX3_readLevel(26, 0, 7) -/
theorem zs_52 : ai_shows zz_fnd zz_ctf zz_ctk zz_N ai_T ai_B1 20000 52 (zz_fr ([(197, 108), (195, 107), (199, 107), (191, 106)] ++ zz_bo)) = true := by decide +kernel
theorem zl_53 {sb : Nat} (ho : zz_open sb) : ∀ j, j < 53 → ct_ok zz_ctf zz_ctk sb j := ct_more (zl_52 ho) (ct_step (zz_fr ([(197, 108), (195, 107), (199, 107), (191, 106)] ++ zz_bo)) zz_hf (zl_52 ho) rfl (by decide +kernel) (by decide +kernel) zs_52)
set_option maxRecDepth 100000 in
/-- cX3_readLevel(26, 5, 6) -/
theorem zs_53 : ai_shows zz_fnd zz_ctf zz_ctk zz_N ai_T ai_B1 20000 53 (zz_fr ([(197, 116), (195, 115), (199, 115), (191, 114)] ++ zz_bo)) = true := by decide +kernel
theorem zl_54 {sb : Nat} (ho : zz_open sb) : ∀ j, j < 54 → ct_ok zz_ctf zz_ctk sb j := ct_more (zl_53 ho) (ct_step (zz_fr ([(197, 116), (195, 115), (199, 115), (191, 114)] ++ zz_bo)) zz_hf (zl_53 ho) rfl (by decide +kernel) (by decide +kernel) zs_53)

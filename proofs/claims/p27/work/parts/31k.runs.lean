set_option maxRecDepth 100000 in
/-- cX9_seat(0,) -/
theorem zs_216 : ai_shows zz_fnd zz_ctf zz_ctk zz_N ai_T ai_B1 20000 216 (zz_fr zz_bo) = true := by decide +kernel
theorem zl_217 {sb : ai_SB} (ho : zz_open sb) : ∀ j, j < 217 → ct_ok zz_ctf zz_ctk sb j := ct_more (zl_216 ho) (ct_step (zz_fr zz_bo) zz_hf (zl_216 ho) rfl (by decide +kernel) (by decide +kernel) zs_216)
set_option maxRecDepth 100000 in
/-- cX9_shares(0,) -/
theorem zs_217 : ai_shows zz_fnd zz_ctf zz_ctk zz_N ai_T ai_B1 20000 217 (zz_fr zz_bo) = true := by decide +kernel
theorem zl_218 {sb : ai_SB} (ho : zz_open sb) : ∀ j, j < 218 → ct_ok zz_ctf zz_ctk sb j := ct_more (zl_217 ho) (ct_step (zz_fr zz_bo) zz_hf (zl_217 ho) rfl (by decide +kernel) (by decide +kernel) zs_217)
set_option maxRecDepth 100000 in
/-- cX9_span(0,) -/
theorem zs_218 : ai_shows zz_fnd zz_ctf zz_ctk zz_N ai_T ai_B1 20000 218 (zz_fr zz_bo) = true := by decide +kernel
theorem zl_219 {sb : ai_SB} (ho : zz_open sb) : ∀ j, j < 219 → ct_ok zz_ctf zz_ctk sb j := ct_more (zl_218 ho) (ct_step (zz_fr zz_bo) zz_hf (zl_218 ho) rfl (by decide +kernel) (by decide +kernel) zs_218)
set_option maxRecDepth 100000 in
/-- cX9_status(0,) -/
theorem zs_219 : ai_shows zz_fnd zz_ctf zz_ctk zz_N ai_T ai_B1 20000 219 (zz_fr zz_bo) = true := by decide +kernel
theorem zl_220 {sb : ai_SB} (ho : zz_open sb) : ∀ j, j < 220 → ct_ok zz_ctf zz_ctk sb j := ct_more (zl_219 ho) (ct_step (zz_fr zz_bo) zz_hf (zl_219 ho) rfl (by decide +kernel) (by decide +kernel) zs_219)
set_option maxRecDepth 100000 in
/-- cX9_tells(0,) -/
theorem zs_220 : ai_shows zz_fnd zz_ctf zz_ctk zz_N ai_T ai_B1 20000 220 (zz_fr zz_bo) = true := by decide +kernel
theorem zl_221 {sb : ai_SB} (ho : zz_open sb) : ∀ j, j < 221 → ct_ok zz_ctf zz_ctk sb j := ct_more (zl_220 ho) (ct_step (zz_fr zz_bo) zz_hf (zl_220 ho) rfl (by decide +kernel) (by decide +kernel) zs_220)
set_option maxRecDepth 100000 in
/-- cX9_terms(0,) -/
theorem zs_221 : ai_shows zz_fnd zz_ctf zz_ctk zz_N ai_T ai_B1 20000 221 (zz_fr zz_bo) = true := by decide +kernel
theorem zl_222 {sb : ai_SB} (ho : zz_open sb) : ∀ j, j < 222 → ct_ok zz_ctf zz_ctk sb j := ct_more (zl_221 ho) (ct_step (zz_fr zz_bo) zz_hf (zl_221 ho) rfl (by decide +kernel) (by decide +kernel) zs_221)
set_option maxRecDepth 100000 in
/-- cX9_twice(0,) -/
theorem zs_222 : ai_shows zz_fnd zz_ctf zz_ctk zz_N ai_T ai_B1 20000 222 (zz_fr zz_bo) = true := by decide +kernel
theorem zl_223 {sb : ai_SB} (ho : zz_open sb) : ∀ j, j < 223 → ct_ok zz_ctf zz_ctk sb j := ct_more (zl_222 ho) (ct_step (zz_fr zz_bo) zz_hf (zl_222 ho) rfl (by decide +kernel) (by decide +kernel) zs_222)
set_option maxRecDepth 100000 in
/-- cX9_way(0,) -/
theorem zs_223 : ai_shows zz_fnd zz_ctf zz_ctk zz_N ai_T ai_B1 20000 223 (zz_fr zz_bo) = true := by decide +kernel
theorem zl_224 {sb : ai_SB} (ho : zz_open sb) : ∀ j, j < 224 → ct_ok zz_ctf zz_ctk sb j := ct_more (zl_223 ho) (ct_step (zz_fr zz_bo) zz_hf (zl_223 ho) rfl (by decide +kernel) (by decide +kernel) zs_223)
set_option maxRecDepth 100000 in
/-- cX9_where(0,) -/
theorem zs_224 : ai_shows zz_fnd zz_ctf zz_ctk zz_N ai_T ai_B1 20000 224 (zz_fr zz_bo) = true := by decide +kernel
theorem zl_225 {sb : ai_SB} (ho : zz_open sb) : ∀ j, j < 225 → ct_ok zz_ctf zz_ctk sb j := ct_more (zl_224 ho) (ct_step (zz_fr zz_bo) zz_hf (zl_224 ho) rfl (by decide +kernel) (by decide +kernel) zs_224)
set_option maxRecDepth 100000 in
/-- cX9_wish(0,) -/
theorem zs_225 : ai_shows zz_fnd zz_ctf zz_ctk zz_N ai_T ai_B1 20000 225 (zz_fr zz_bo) = true := by decide +kernel
theorem zl_226 {sb : ai_SB} (ho : zz_open sb) : ∀ j, j < 226 → ct_ok zz_ctf zz_ctk sb j := ct_more (zl_225 ho) (ct_step (zz_fr zz_bo) zz_hf (zl_225 ho) rfl (by decide +kernel) (by decide +kernel) zs_225)

set_option maxRecDepth 100000 in
/-- cX9_rule(0,) -/
theorem zs_197 : ai_shows zz_fnd zz_ctf zz_ctk zz_N ai_T ai_B1 20000 197 (zz_fr zz_bo) = true := by decide +kernel
theorem zl_198 {sb : Nat} (ho : zz_open sb) : ∀ j, j < 198 → ct_ok zz_ctf zz_ctk sb j := ct_more (zl_197 ho) (ct_step (zz_fr zz_bo) zz_hf (zl_197 ho) rfl (by decide +kernel) (by decide +kernel) zs_197)
set_option maxRecDepth 100000 in
/-- cX9_seal(0,) -/
theorem zs_198 : ai_shows zz_fnd zz_ctf zz_ctk zz_N ai_T ai_B1 20000 198 (zz_fr zz_bo) = true := by decide +kernel
theorem zl_199 {sb : Nat} (ho : zz_open sb) : ∀ j, j < 199 → ct_ok zz_ctf zz_ctk sb j := ct_more (zl_198 ho) (ct_step (zz_fr zz_bo) zz_hf (zl_198 ho) rfl (by decide +kernel) (by decide +kernel) zs_198)
set_option maxRecDepth 100000 in
/-- cX9_seat(0,) -/
theorem zs_199 : ai_shows zz_fnd zz_ctf zz_ctk zz_N ai_T ai_B1 20000 199 (zz_fr zz_bo) = true := by decide +kernel
theorem zl_200 {sb : Nat} (ho : zz_open sb) : ∀ j, j < 200 → ct_ok zz_ctf zz_ctk sb j := ct_more (zl_199 ho) (ct_step (zz_fr zz_bo) zz_hf (zl_199 ho) rfl (by decide +kernel) (by decide +kernel) zs_199)
set_option maxRecDepth 100000 in
/-- cX9_shares(0,) -/
theorem zs_200 : ai_shows zz_fnd zz_ctf zz_ctk zz_N ai_T ai_B1 20000 200 (zz_fr zz_bo) = true := by decide +kernel
theorem zl_201 {sb : Nat} (ho : zz_open sb) : ∀ j, j < 201 → ct_ok zz_ctf zz_ctk sb j := ct_more (zl_200 ho) (ct_step (zz_fr zz_bo) zz_hf (zl_200 ho) rfl (by decide +kernel) (by decide +kernel) zs_200)
set_option maxRecDepth 100000 in
/-- cX9_span(0,) -/
theorem zs_201 : ai_shows zz_fnd zz_ctf zz_ctk zz_N ai_T ai_B1 20000 201 (zz_fr zz_bo) = true := by decide +kernel
theorem zl_202 {sb : Nat} (ho : zz_open sb) : ∀ j, j < 202 → ct_ok zz_ctf zz_ctk sb j := ct_more (zl_201 ho) (ct_step (zz_fr zz_bo) zz_hf (zl_201 ho) rfl (by decide +kernel) (by decide +kernel) zs_201)
set_option maxRecDepth 100000 in
/-- cX9_status(0,) -/
theorem zs_202 : ai_shows zz_fnd zz_ctf zz_ctk zz_N ai_T ai_B1 20000 202 (zz_fr zz_bo) = true := by decide +kernel
theorem zl_203 {sb : Nat} (ho : zz_open sb) : ∀ j, j < 203 → ct_ok zz_ctf zz_ctk sb j := ct_more (zl_202 ho) (ct_step (zz_fr zz_bo) zz_hf (zl_202 ho) rfl (by decide +kernel) (by decide +kernel) zs_202)
set_option maxRecDepth 100000 in
/-- cX9_tells(0,) -/
theorem zs_203 : ai_shows zz_fnd zz_ctf zz_ctk zz_N ai_T ai_B1 20000 203 (zz_fr zz_bo) = true := by decide +kernel
theorem zl_204 {sb : Nat} (ho : zz_open sb) : ∀ j, j < 204 → ct_ok zz_ctf zz_ctk sb j := ct_more (zl_203 ho) (ct_step (zz_fr zz_bo) zz_hf (zl_203 ho) rfl (by decide +kernel) (by decide +kernel) zs_203)
set_option maxRecDepth 100000 in
/-- cX9_terms(0,) -/
theorem zs_204 : ai_shows zz_fnd zz_ctf zz_ctk zz_N ai_T ai_B1 20000 204 (zz_fr zz_bo) = true := by decide +kernel
theorem zl_205 {sb : Nat} (ho : zz_open sb) : ∀ j, j < 205 → ct_ok zz_ctf zz_ctk sb j := ct_more (zl_204 ho) (ct_step (zz_fr zz_bo) zz_hf (zl_204 ho) rfl (by decide +kernel) (by decide +kernel) zs_204)
set_option maxRecDepth 100000 in
/-- cX9_twice(0,) -/
theorem zs_205 : ai_shows zz_fnd zz_ctf zz_ctk zz_N ai_T ai_B1 20000 205 (zz_fr zz_bo) = true := by decide +kernel
theorem zl_206 {sb : Nat} (ho : zz_open sb) : ∀ j, j < 206 → ct_ok zz_ctf zz_ctk sb j := ct_more (zl_205 ho) (ct_step (zz_fr zz_bo) zz_hf (zl_205 ho) rfl (by decide +kernel) (by decide +kernel) zs_205)
set_option maxRecDepth 100000 in
/-- cX9_way(0,) -/
theorem zs_206 : ai_shows zz_fnd zz_ctf zz_ctk zz_N ai_T ai_B1 20000 206 (zz_fr zz_bo) = true := by decide +kernel
theorem zl_207 {sb : Nat} (ho : zz_open sb) : ∀ j, j < 207 → ct_ok zz_ctf zz_ctk sb j := ct_more (zl_206 ho) (ct_step (zz_fr zz_bo) zz_hf (zl_206 ho) rfl (by decide +kernel) (by decide +kernel) zs_206)
set_option maxRecDepth 100000 in
/-- cX9_where(0,) -/
theorem zs_207 : ai_shows zz_fnd zz_ctf zz_ctk zz_N ai_T ai_B1 20000 207 (zz_fr zz_bo) = true := by decide +kernel
theorem zl_208 {sb : Nat} (ho : zz_open sb) : ∀ j, j < 208 → ct_ok zz_ctf zz_ctk sb j := ct_more (zl_207 ho) (ct_step (zz_fr zz_bo) zz_hf (zl_207 ho) rfl (by decide +kernel) (by decide +kernel) zs_207)
set_option maxRecDepth 100000 in
/-- cX9_wish(0,) -/
theorem zs_208 : ai_shows zz_fnd zz_ctf zz_ctk zz_N ai_T ai_B1 20000 208 (zz_fr zz_bo) = true := by decide +kernel
theorem zl_209 {sb : Nat} (ho : zz_open sb) : ∀ j, j < 209 → ct_ok zz_ctf zz_ctk sb j := ct_more (zl_208 ho) (ct_step (zz_fr zz_bo) zz_hf (zl_208 ho) rfl (by decide +kernel) (by decide +kernel) zs_208)

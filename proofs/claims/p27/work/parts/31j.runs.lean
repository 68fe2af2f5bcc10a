set_option maxRecDepth 100000 in
/-- cX9_hand(0,) -/
theorem zs_196 : ai_shows zz_fnd zz_ctf zz_ctk zz_N ai_T ai_B1 20000 196 (zz_fr zz_bo) = true := by decide +kernel
theorem zl_197 {sb : ai_SB} (ho : zz_open sb) : ∀ j, j < 197 → ct_ok zz_ctf zz_ctk sb j := ct_more (zl_196 ho) (ct_step (zz_fr zz_bo) zz_hf (zl_196 ho) rfl (by decide +kernel) (by decide +kernel) zs_196)
set_option maxRecDepth 100000 in
/-- cX9_held(0,) -/
theorem zs_197 : ai_shows zz_fnd zz_ctf zz_ctk zz_N ai_T ai_B1 20000 197 (zz_fr zz_bo) = true := by decide +kernel
theorem zl_198 {sb : ai_SB} (ho : zz_open sb) : ∀ j, j < 198 → ct_ok zz_ctf zz_ctk sb j := ct_more (zl_197 ho) (ct_step (zz_fr zz_bo) zz_hf (zl_197 ho) rfl (by decide +kernel) (by decide +kernel) zs_197)
set_option maxRecDepth 100000 in
/-- cX9_hidden(0,) -/
theorem zs_198 : ai_shows zz_fnd zz_ctf zz_ctk zz_N ai_T ai_B1 20000 198 (zz_fr zz_bo) = true := by decide +kernel
theorem zl_199 {sb : ai_SB} (ho : zz_open sb) : ∀ j, j < 199 → ct_ok zz_ctf zz_ctk sb j := ct_more (zl_198 ho) (ct_step (zz_fr zz_bo) zz_hf (zl_198 ho) rfl (by decide +kernel) (by decide +kernel) zs_198)
set_option maxRecDepth 100000 in
/-- cX9_judge(0,) -/
theorem zs_199 : ai_shows zz_fnd zz_ctf zz_ctk zz_N ai_T ai_B1 20000 199 (zz_fr zz_bo) = true := by decide +kernel
theorem zl_200 {sb : ai_SB} (ho : zz_open sb) : ∀ j, j < 200 → ct_ok zz_ctf zz_ctk sb j := ct_more (zl_199 ho) (ct_step (zz_fr zz_bo) zz_hf (zl_199 ho) rfl (by decide +kernel) (by decide +kernel) zs_199)
set_option maxRecDepth 100000 in
/-- cX9_keep(0,) -/
theorem zs_200 : ai_shows zz_fnd zz_ctf zz_ctk zz_N ai_T ai_B1 20000 200 (zz_fr zz_bo) = true := by decide +kernel
theorem zl_201 {sb : ai_SB} (ho : zz_open sb) : ∀ j, j < 201 → ct_ok zz_ctf zz_ctk sb j := ct_more (zl_200 ho) (ct_step (zz_fr zz_bo) zz_hf (zl_200 ho) rfl (by decide +kernel) (by decide +kernel) zs_200)
set_option maxRecDepth 100000 in
/-- cX9_led(0,) -/
theorem zs_201 : ai_shows zz_fnd zz_ctf zz_ctk zz_N ai_T ai_B1 20000 201 (zz_fr zz_bo) = true := by decide +kernel
theorem zl_202 {sb : ai_SB} (ho : zz_open sb) : ∀ j, j < 202 → ct_ok zz_ctf zz_ctk sb j := ct_more (zl_201 ho) (ct_step (zz_fr zz_bo) zz_hf (zl_201 ho) rfl (by decide +kernel) (by decide +kernel) zs_201)
set_option maxRecDepth 100000 in
/-- cX9_leg(0,) -/
theorem zs_202 : ai_shows zz_fnd zz_ctf zz_ctk zz_N ai_T ai_B1 20000 202 (zz_fr zz_bo) = true := by decide +kernel
theorem zl_203 {sb : ai_SB} (ho : zz_open sb) : ∀ j, j < 203 → ct_ok zz_ctf zz_ctk sb j := ct_more (zl_202 ho) (ct_step (zz_fr zz_bo) zz_hf (zl_202 ho) rfl (by decide +kernel) (by decide +kernel) zs_202)
set_option maxRecDepth 100000 in
/-- cX9_like(0,) -/
theorem zs_203 : ai_shows zz_fnd zz_ctf zz_ctk zz_N ai_T ai_B1 20000 203 (zz_fr zz_bo) = true := by decide +kernel
theorem zl_204 {sb : ai_SB} (ho : zz_open sb) : ∀ j, j < 204 → ct_ok zz_ctf zz_ctk sb j := ct_more (zl_203 ho) (ct_step (zz_fr zz_bo) zz_hf (zl_203 ho) rfl (by decide +kernel) (by decide +kernel) zs_203)
set_option maxRecDepth 100000 in
/-- cX9_moved(0,) -/
theorem zs_204 : ai_shows zz_fnd zz_ctf zz_ctk zz_N ai_T ai_B1 20000 204 (zz_fr zz_bo) = true := by decide +kernel
theorem zl_205 {sb : ai_SB} (ho : zz_open sb) : ∀ j, j < 205 → ct_ok zz_ctf zz_ctk sb j := ct_more (zl_204 ho) (ct_step (zz_fr zz_bo) zz_hf (zl_204 ho) rfl (by decide +kernel) (by decide +kernel) zs_204)
set_option maxRecDepth 100000 in
/-- cX9_name(0,) -/
theorem zs_205 : ai_shows zz_fnd zz_ctf zz_ctk zz_N ai_T ai_B1 20000 205 (zz_fr zz_bo) = true := by decide +kernel
theorem zl_206 {sb : ai_SB} (ho : zz_open sb) : ∀ j, j < 206 → ct_ok zz_ctf zz_ctk sb j := ct_more (zl_205 ho) (ct_step (zz_fr zz_bo) zz_hf (zl_205 ho) rfl (by decide +kernel) (by decide +kernel) zs_205)
set_option maxRecDepth 100000 in
/-- cX9_of(0,) -/
theorem zs_206 : ai_shows zz_fnd zz_ctf zz_ctk zz_N ai_T ai_B1 20000 206 (zz_fr zz_bo) = true := by decide +kernel
theorem zl_207 {sb : ai_SB} (ho : zz_open sb) : ∀ j, j < 207 → ct_ok zz_ctf zz_ctk sb j := ct_more (zl_206 ho) (ct_step (zz_fr zz_bo) zz_hf (zl_206 ho) rfl (by decide +kernel) (by decide +kernel) zs_206)
set_option maxRecDepth 100000 in
/-- cX9_off(0,) -/
theorem zs_207 : ai_shows zz_fnd zz_ctf zz_ctk zz_N ai_T ai_B1 20000 207 (zz_fr zz_bo) = true := by decide +kernel
theorem zl_208 {sb : ai_SB} (ho : zz_open sb) : ∀ j, j < 208 → ct_ok zz_ctf zz_ctk sb j := ct_more (zl_207 ho) (ct_step (zz_fr zz_bo) zz_hf (zl_207 ho) rfl (by decide +kernel) (by decide +kernel) zs_207)
set_option maxRecDepth 100000 in
/-- cX9_on(0,) -/
theorem zs_208 : ai_shows zz_fnd zz_ctf zz_ctk zz_N ai_T ai_B1 20000 208 (zz_fr zz_bo) = true := by decide +kernel
theorem zl_209 {sb : ai_SB} (ho : zz_open sb) : ∀ j, j < 209 → ct_ok zz_ctf zz_ctk sb j := ct_more (zl_208 ho) (ct_step (zz_fr zz_bo) zz_hf (zl_208 ho) rfl (by decide +kernel) (by decide +kernel) zs_208)
set_option maxRecDepth 100000 in
/-- cX9_order(0,) -/
theorem zs_209 : ai_shows zz_fnd zz_ctf zz_ctk zz_N ai_T ai_B1 20000 209 (zz_fr zz_bo) = true := by decide +kernel
theorem zl_210 {sb : ai_SB} (ho : zz_open sb) : ∀ j, j < 210 → ct_ok zz_ctf zz_ctk sb j := ct_more (zl_209 ho) (ct_step (zz_fr zz_bo) zz_hf (zl_209 ho) rfl (by decide +kernel) (by decide +kernel) zs_209)
set_option maxRecDepth 100000 in
/-- cX9_paper(0,) -/
theorem zs_210 : ai_shows zz_fnd zz_ctf zz_ctk zz_N ai_T ai_B1 20000 210 (zz_fr zz_bo) = true := by decide +kernel
theorem zl_211 {sb : ai_SB} (ho : zz_open sb) : ∀ j, j < 211 → ct_ok zz_ctf zz_ctk sb j := ct_more (zl_210 ho) (ct_step (zz_fr zz_bo) zz_hf (zl_210 ho) rfl (by decide +kernel) (by decide +kernel) zs_210)
set_option maxRecDepth 100000 in
/-- cX9_place(0,) -/
theorem zs_211 : ai_shows zz_fnd zz_ctf zz_ctk zz_N ai_T ai_B1 20000 211 (zz_fr zz_bo) = true := by decide +kernel
theorem zl_212 {sb : ai_SB} (ho : zz_open sb) : ∀ j, j < 212 → ct_ok zz_ctf zz_ctk sb j := ct_more (zl_211 ho) (ct_step (zz_fr zz_bo) zz_hf (zl_211 ho) rfl (by decide +kernel) (by decide +kernel) zs_211)
set_option maxRecDepth 100000 in
/-- cX9_roll(0,) -/
theorem zs_212 : ai_shows zz_fnd zz_ctf zz_ctk zz_N ai_T ai_B1 20000 212 (zz_fr zz_bo) = true := by decide +kernel
theorem zl_213 {sb : ai_SB} (ho : zz_open sb) : ∀ j, j < 213 → ct_ok zz_ctf zz_ctk sb j := ct_more (zl_212 ho) (ct_step (zz_fr zz_bo) zz_hf (zl_212 ho) rfl (by decide +kernel) (by decide +kernel) zs_212)
set_option maxRecDepth 100000 in
/-- cX9_row(0,) -/
theorem zs_213 : ai_shows zz_fnd zz_ctf zz_ctk zz_N ai_T ai_B1 20000 213 (zz_fr zz_bo) = true := by decide +kernel
theorem zl_214 {sb : ai_SB} (ho : zz_open sb) : ∀ j, j < 214 → ct_ok zz_ctf zz_ctk sb j := ct_more (zl_213 ho) (ct_step (zz_fr zz_bo) zz_hf (zl_213 ho) rfl (by decide +kernel) (by decide +kernel) zs_213)
set_option maxRecDepth 100000 in
/-- cX9_rule(0,) -/
theorem zs_214 : ai_shows zz_fnd zz_ctf zz_ctk zz_N ai_T ai_B1 20000 214 (zz_fr zz_bo) = true := by decide +kernel
theorem zl_215 {sb : ai_SB} (ho : zz_open sb) : ∀ j, j < 215 → ct_ok zz_ctf zz_ctk sb j := ct_more (zl_214 ho) (ct_step (zz_fr zz_bo) zz_hf (zl_214 ho) rfl (by decide +kernel) (by decide +kernel) zs_214)
set_option maxRecDepth 100000 in
/-- cX9_seal(0,) -/
theorem zs_215 : ai_shows zz_fnd zz_ctf zz_ctk zz_N ai_T ai_B1 20000 215 (zz_fr zz_bo) = true := by decide +kernel
theorem zl_216 {sb : ai_SB} (ho : zz_open sb) : ∀ j, j < 216 → ct_ok zz_ctf zz_ctk sb j := ct_more (zl_215 ho) (ct_step (zz_fr zz_bo) zz_hf (zl_215 ho) rfl (by decide +kernel) (by decide +kernel) zs_215)

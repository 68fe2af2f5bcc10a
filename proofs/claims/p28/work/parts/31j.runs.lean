set_option maxRecDepth 100000 in
/-- cX7_tellName(31,) -/
theorem zs_167 : ai_shows zz_fnd zz_ctf zz_ctk zz_N ai_T ai_B1 20000 167 (zz_fr zz_bo) = true := by decide +kernel
theorem zl_168 {sb : ai_SB} (ho : zz_open sb) : ∀ j, j < 168 → ct_ok zz_ctf zz_ctk sb j := ct_more (zl_167 ho) (ct_step (zz_fr zz_bo) zz_hf (zl_167 ho) rfl (by decide +kernel) (by decide +kernel) zs_167)
set_option maxRecDepth 100000 in
/-- cX7_isOnRoll(31,) -/
theorem zs_168 : ai_shows zz_fnd zz_ctf zz_ctk zz_N ai_T ai_B1 20000 168 (zz_fr zz_bo) = true := by decide +kernel
theorem zl_169 {sb : ai_SB} (ho : zz_open sb) : ∀ j, j < 169 → ct_ok zz_ctf zz_ctk sb j := ct_more (zl_168 ho) (ct_step (zz_fr zz_bo) zz_hf (zl_168 ho) rfl (by decide +kernel) (by decide +kernel) zs_168)
set_option maxRecDepth 100000 in
/-- cX7_lookAtRolls(31,) -/
theorem zs_169 : ai_shows zz_fnd zz_ctf zz_ctk zz_N ai_T ai_B1 20000 169 (zz_fr zz_bo) = true := by decide +kernel
theorem zl_170 {sb : ai_SB} (ho : zz_open sb) : ∀ j, j < 170 → ct_ok zz_ctf zz_ctk sb j := ct_more (zl_169 ho) (ct_step (zz_fr zz_bo) zz_hf (zl_169 ho) rfl (by decide +kernel) (by decide +kernel) zs_169)
set_option maxRecDepth 100000 in
/-- cX7_pairAt(31,) -/
theorem zs_170 : ai_shows zz_fnd zz_ctf zz_ctk zz_N ai_T ai_B1 20000 170 (zz_fr zz_bo) = true := by decide +kernel
theorem zl_171 {sb : ai_SB} (ho : zz_open sb) : ∀ j, j < 171 → ct_ok zz_ctf zz_ctk sb j := ct_more (zl_170 ho) (ct_step (zz_fr zz_bo) zz_hf (zl_170 ho) rfl (by decide +kernel) (by decide +kernel) zs_170)
set_option maxRecDepth 100000 in
/-- cX8_areAllThere(53,) -/
theorem zs_171 : ai_shows zz_fnd zz_ctf zz_ctk zz_N ai_T ai_B1 20000 171 (zz_fr zz_bo) = true := by decide +kernel
theorem zl_172 {sb : ai_SB} (ho : zz_open sb) : ∀ j, j < 172 → ct_ok zz_ctf zz_ctk sb j := ct_more (zl_171 ho) (ct_step (zz_fr zz_bo) zz_hf (zl_171 ho) rfl (by decide +kernel) (by decide +kernel) zs_171)
set_option maxRecDepth 100000 in
/-- cX8_holds(53,) -/
theorem zs_172 : ai_shows zz_fnd zz_ctf zz_ctk zz_N ai_T ai_B1 20000 172 (zz_fr zz_bo) = true := by decide +kernel
theorem zl_173 {sb : ai_SB} (ho : zz_open sb) : ∀ j, j < 173 → ct_ok zz_ctf zz_ctk sb j := ct_more (zl_172 ho) (ct_step (zz_fr zz_bo) zz_hf (zl_172 ho) rfl (by decide +kernel) (by decide +kernel) zs_172)
set_option maxRecDepth 100000 in
/-- cX9_addName(0,) -/
theorem zs_173 : ai_shows zz_fnd zz_ctf zz_ctk zz_N ai_T ai_B1 20000 173 (zz_fr zz_bo) = true := by decide +kernel
theorem zl_174 {sb : ai_SB} (ho : zz_open sb) : ∀ j, j < 174 → ct_ok zz_ctf zz_ctk sb j := ct_more (zl_173 ho) (ct_step (zz_fr zz_bo) zz_hf (zl_173 ho) rfl (by decide +kernel) (by decide +kernel) zs_173)
set_option maxRecDepth 100000 in
/-- cX9_canBeName() -/
theorem zs_174 : ai_shows zz_fnd zz_ctf zz_ctk zz_N ai_T ai_B1 20000 174 (zz_fr zz_bo) = true := by decide +kernel
theorem zl_175 {sb : ai_SB} (ho : zz_open sb) : ∀ j, j < 175 → ct_ok zz_ctf zz_ctk sb j := ct_more (zl_174 ho) (ct_step (zz_fr zz_bo) zz_hf (zl_174 ho) rfl (by decide +kernel) (by decide +kernel) zs_174)
set_option maxRecDepth 100000 in
/-- cX9_addTold(0,) -/
theorem zs_175 : ai_shows zz_fnd zz_ctf zz_ctk zz_N ai_T ai_B1 20000 175 (zz_fr zz_bo) = true := by decide +kernel
theorem zl_176 {sb : ai_SB} (ho : zz_open sb) : ∀ j, j < 176 → ct_ok zz_ctf zz_ctk sb j := ct_more (zl_175 ho) (ct_step (zz_fr zz_bo) zz_hf (zl_175 ho) rfl (by decide +kernel) (by decide +kernel) zs_175)
set_option maxRecDepth 100000 in
/-- cX9_all(0,) -/
theorem zs_176 : ai_shows zz_fnd zz_ctf zz_ctk zz_N ai_T ai_B1 20000 176 (zz_fr zz_bo) = true := by decide +kernel
theorem zl_177 {sb : ai_SB} (ho : zz_open sb) : ∀ j, j < 177 → ct_ok zz_ctf zz_ctk sb j := ct_more (zl_176 ho) (ct_step (zz_fr zz_bo) zz_hf (zl_176 ho) rfl (by decide +kernel) (by decide +kernel) zs_176)
set_option maxRecDepth 100000 in
/-- cX9_apart(0,) -/
theorem zs_177 : ai_shows zz_fnd zz_ctf zz_ctk zz_N ai_T ai_B1 20000 177 (zz_fr zz_bo) = true := by decide +kernel
theorem zl_178 {sb : ai_SB} (ho : zz_open sb) : ∀ j, j < 178 → ct_ok zz_ctf zz_ctk sb j := ct_more (zl_177 ho) (ct_step (zz_fr zz_bo) zz_hf (zl_177 ho) rfl (by decide +kernel) (by decide +kernel) zs_177)
set_option maxRecDepth 100000 in
/-- cX9_booth(0,) -/
theorem zs_178 : ai_shows zz_fnd zz_ctf zz_ctk zz_N ai_T ai_B1 20000 178 (zz_fr zz_bo) = true := by decide +kernel
theorem zl_179 {sb : ai_SB} (ho : zz_open sb) : ∀ j, j < 179 → ct_ok zz_ctf zz_ctk sb j := ct_more (zl_178 ho) (ct_step (zz_fr zz_bo) zz_hf (zl_178 ho) rfl (by decide +kernel) (by decide +kernel) zs_178)
set_option maxRecDepth 100000 in
/-- cX9_booths(0,) -/
theorem zs_179 : ai_shows zz_fnd zz_ctf zz_ctk zz_N ai_T ai_B1 20000 179 (zz_fr zz_bo) = true := by decide +kernel
theorem zl_180 {sb : ai_SB} (ho : zz_open sb) : ∀ j, j < 180 → ct_ok zz_ctf zz_ctk sb j := ct_more (zl_179 ho) (ct_step (zz_fr zz_bo) zz_hf (zl_179 ho) rfl (by decide +kernel) (by decide +kernel) zs_179)

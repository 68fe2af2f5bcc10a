set_option maxRecDepth 100000 in
/-- cX7_isOnRoll(31,) -/
theorem zs_171 : ai_shows zz_fnd zz_ctf zz_ctk zz_N ai_T ai_B1 20000 171 (zz_fr zz_bo) = true := by decide +kernel
theorem zl_172 {sb : ai_SB} (ho : zz_open sb) : ∀ j, j < 172 → ct_ok zz_ctf zz_ctk sb j := ct_more (zl_171 ho) (ct_step (zz_fr zz_bo) zz_hf (zl_171 ho) rfl (by decide +kernel) (by decide +kernel) zs_171)
set_option maxRecDepth 100000 in
/-- cX7_lookAtRolls(31,) -/
theorem zs_172 : ai_shows zz_fnd zz_ctf zz_ctk zz_N ai_T ai_B1 20000 172 (zz_fr zz_bo) = true := by decide +kernel
theorem zl_173 {sb : ai_SB} (ho : zz_open sb) : ∀ j, j < 173 → ct_ok zz_ctf zz_ctk sb j := ct_more (zl_172 ho) (ct_step (zz_fr zz_bo) zz_hf (zl_172 ho) rfl (by decide +kernel) (by decide +kernel) zs_172)
set_option maxRecDepth 100000 in
/-- cX7_pairAt(31,) -/
theorem zs_173 : ai_shows zz_fnd zz_ctf zz_ctk zz_N ai_T ai_B1 20000 173 (zz_fr zz_bo) = true := by decide +kernel
theorem zl_174 {sb : ai_SB} (ho : zz_open sb) : ∀ j, j < 174 → ct_ok zz_ctf zz_ctk sb j := ct_more (zl_173 ho) (ct_step (zz_fr zz_bo) zz_hf (zl_173 ho) rfl (by decide +kernel) (by decide +kernel) zs_173)
set_option maxRecDepth 100000 in
/-- cX8_areAllThere(53,) -/
theorem zs_174 : ai_shows zz_fnd zz_ctf zz_ctk zz_N ai_T ai_B1 20000 174 (zz_fr zz_bo) = true := by decide +kernel
theorem zl_175 {sb : ai_SB} (ho : zz_open sb) : ∀ j, j < 175 → ct_ok zz_ctf zz_ctk sb j := ct_more (zl_174 ho) (ct_step (zz_fr zz_bo) zz_hf (zl_174 ho) rfl (by decide +kernel) (by decide +kernel) zs_174)
set_option maxRecDepth 100000 in
/-- cX8_holds(53,) -/
theorem zs_175 : ai_shows zz_fnd zz_ctf zz_ctk zz_N ai_T ai_B1 20000 175 (zz_fr zz_bo) = true := by decide +kernel
theorem zl_176 {sb : ai_SB} (ho : zz_open sb) : ∀ j, j < 176 → ct_ok zz_ctf zz_ctk sb j := ct_more (zl_175 ho) (ct_step (zz_fr zz_bo) zz_hf (zl_175 ho) rfl (by decide +kernel) (by decide +kernel) zs_175)
set_option maxRecDepth 100000 in
/-- cX9_addName(0,) -/
theorem zs_176 : ai_shows zz_fnd zz_ctf zz_ctk zz_N ai_T ai_B1 20000 176 (zz_fr zz_bo) = true := by decide +kernel
theorem zl_177 {sb : ai_SB} (ho : zz_open sb) : ∀ j, j < 177 → ct_ok zz_ctf zz_ctk sb j := ct_more (zl_176 ho) (ct_step (zz_fr zz_bo) zz_hf (zl_176 ho) rfl (by decide +kernel) (by decide +kernel) zs_176)
set_option maxRecDepth 100000 in
/-- cX9_canBeName() -/
theorem zs_177 : ai_shows zz_fnd zz_ctf zz_ctk zz_N ai_T ai_B1 20000 177 (zz_fr zz_bo) = true := by decide +kernel
theorem zl_178 {sb : ai_SB} (ho : zz_open sb) : ∀ j, j < 178 → ct_ok zz_ctf zz_ctk sb j := ct_more (zl_177 ho) (ct_step (zz_fr zz_bo) zz_hf (zl_177 ho) rfl (by decide +kernel) (by decide +kernel) zs_177)
set_option maxRecDepth 100000 in
/-- cX9_addTold(0,) -/
theorem zs_178 : ai_shows zz_fnd zz_ctf zz_ctk zz_N ai_T ai_B1 20000 178 (zz_fr zz_bo) = true := by decide +kernel
theorem zl_179 {sb : ai_SB} (ho : zz_open sb) : ∀ j, j < 179 → ct_ok zz_ctf zz_ctk sb j := ct_more (zl_178 ho) (ct_step (zz_fr zz_bo) zz_hf (zl_178 ho) rfl (by decide +kernel) (by decide +kernel) zs_178)
set_option maxRecDepth 100000 in
/-- cX9_all(0,) -/
theorem zs_179 : ai_shows zz_fnd zz_ctf zz_ctk zz_N ai_T ai_B1 20000 179 (zz_fr zz_bo) = true := by decide +kernel
theorem zl_180 {sb : ai_SB} (ho : zz_open sb) : ∀ j, j < 180 → ct_ok zz_ctf zz_ctk sb j := ct_more (zl_179 ho) (ct_step (zz_fr zz_bo) zz_hf (zl_179 ho) rfl (by decide +kernel) (by decide +kernel) zs_179)
set_option maxRecDepth 100000 in
/-- cX9_alter(0,) -/
theorem zs_180 : ai_shows zz_fnd zz_ctf zz_ctk zz_N ai_T ai_B1 20000 180 (zz_fr zz_bo) = true := by decide +kernel
theorem zl_181 {sb : ai_SB} (ho : zz_open sb) : ∀ j, j < 181 → ct_ok zz_ctf zz_ctk sb j := ct_more (zl_180 ho) (ct_step (zz_fr zz_bo) zz_hf (zl_180 ho) rfl (by decide +kernel) (by decide +kernel) zs_180)
set_option maxRecDepth 100000 in
/-- cX9_apart(0,) -/
theorem zs_181 : ai_shows zz_fnd zz_ctf zz_ctk zz_N ai_T ai_B1 20000 181 (zz_fr zz_bo) = true := by decide +kernel
theorem zl_182 {sb : ai_SB} (ho : zz_open sb) : ∀ j, j < 182 → ct_ok zz_ctf zz_ctk sb j := ct_more (zl_181 ho) (ct_step (zz_fr zz_bo) zz_hf (zl_181 ho) rfl (by decide +kernel) (by decide +kernel) zs_181)
set_option maxRecDepth 100000 in
/-- cX9_booth(0,) -/
theorem zs_182 : ai_shows zz_fnd zz_ctf zz_ctk zz_N ai_T ai_B1 20000 182 (zz_fr zz_bo) = true := by decide +kernel
theorem zl_183 {sb : ai_SB} (ho : zz_open sb) : ∀ j, j < 183 → ct_ok zz_ctf zz_ctk sb j := ct_more (zl_182 ho) (ct_step (zz_fr zz_bo) zz_hf (zl_182 ho) rfl (by decide +kernel) (by decide +kernel) zs_182)
set_option maxRecDepth 100000 in
/-- cX9_booths(0,) -/
theorem zs_183 : ai_shows zz_fnd zz_ctf zz_ctk zz_N ai_T ai_B1 20000 183 (zz_fr zz_bo) = true := by decide +kernel
theorem zl_184 {sb : ai_SB} (ho : zz_open sb) : ∀ j, j < 184 → ct_ok zz_ctf zz_ctk sb j := ct_more (zl_183 ho) (ct_step (zz_fr zz_bo) zz_hf (zl_183 ho) rfl (by decide +kernel) (by decide +kernel) zs_183)
set_option maxRecDepth 100000 in
/-- cX9_box(0,) -/
theorem zs_184 : ai_shows zz_fnd zz_ctf zz_ctk zz_N ai_T ai_B1 20000 184 (zz_fr zz_bo) = true := by decide +kernel
theorem zl_185 {sb : ai_SB} (ho : zz_open sb) : ∀ j, j < 185 → ct_ok zz_ctf zz_ctk sb j := ct_more (zl_184 ho) (ct_step (zz_fr zz_bo) zz_hf (zl_184 ho) rfl (by decide +kernel) (by decide +kernel) zs_184)
set_option maxRecDepth 100000 in
/-- cX9_broken(0,) -/
theorem zs_185 : ai_shows zz_fnd zz_ctf zz_ctk zz_N ai_T ai_B1 20000 185 (zz_fr zz_bo) = true := by decide +kernel
theorem zl_186 {sb : ai_SB} (ho : zz_open sb) : ∀ j, j < 186 → ct_ok zz_ctf zz_ctk sb j := ct_more (zl_185 ho) (ct_step (zz_fr zz_bo) zz_hf (zl_185 ho) rfl (by decide +kernel) (by decide +kernel) zs_185)
set_option maxRecDepth 100000 in
/-- cX9_choices() -/
theorem zs_186 : ai_shows zz_fnd zz_ctf zz_ctk zz_N ai_T ai_B1 20000 186 (zz_fr zz_bo) = true := by decide +kernel
theorem zl_187 {sb : ai_SB} (ho : zz_open sb) : ∀ j, j < 187 → ct_ok zz_ctf zz_ctk sb j := ct_more (zl_186 ho) (ct_step (zz_fr zz_bo) zz_hf (zl_186 ho) rfl (by decide +kernel) (by decide +kernel) zs_186)
set_option maxRecDepth 100000 in
/-- cX9_clear(0,) -/
theorem zs_187 : ai_shows zz_fnd zz_ctf zz_ctk zz_N ai_T ai_B1 20000 187 (zz_fr zz_bo) = true := by decide +kernel
theorem zl_188 {sb : ai_SB} (ho : zz_open sb) : ∀ j, j < 188 → ct_ok zz_ctf zz_ctk sb j := ct_more (zl_187 ho) (ct_step (zz_fr zz_bo) zz_hf (zl_187 ho) rfl (by decide +kernel) (by decide +kernel) zs_187)
set_option maxRecDepth 100000 in
/-- cX9_count(0,) -/
theorem zs_188 : ai_shows zz_fnd zz_ctf zz_ctk zz_N ai_T ai_B1 20000 188 (zz_fr zz_bo) = true := by decide +kernel
theorem zl_189 {sb : ai_SB} (ho : zz_open sb) : ∀ j, j < 189 → ct_ok zz_ctf zz_ctk sb j := ct_more (zl_188 ho) (ct_step (zz_fr zz_bo) zz_hf (zl_188 ho) rfl (by decide +kernel) (by decide +kernel) zs_188)
set_option maxRecDepth 100000 in
/-- cX9_waysToDraw() -/
theorem zs_189 : ai_shows zz_fnd zz_ctf zz_ctk zz_N ai_T ai_B1 20000 189 (zz_fr zz_bo) = true := by decide +kernel
theorem zl_190 {sb : ai_SB} (ho : zz_open sb) : ∀ j, j < 190 → ct_ok zz_ctf zz_ctk sb j := ct_more (zl_189 ho) (ct_step (zz_fr zz_bo) zz_hf (zl_189 ho) rfl (by decide +kernel) (by decide +kernel) zs_189)
set_option maxRecDepth 100000 in
/-- cX9_doors(0,) -/
theorem zs_190 : ai_shows zz_fnd zz_ctf zz_ctk zz_N ai_T ai_B1 20000 190 (zz_fr zz_bo) = true := by decide +kernel
theorem zl_191 {sb : ai_SB} (ho : zz_open sb) : ∀ j, j < 191 → ct_ok zz_ctf zz_ctk sb j := ct_more (zl_190 ho) (ct_step (zz_fr zz_bo) zz_hf (zl_190 ho) rfl (by decide +kernel) (by decide +kernel) zs_190)
set_option maxRecDepth 100000 in
/-- cX9_end(0,) -/
theorem zs_191 : ai_shows zz_fnd zz_ctf zz_ctk zz_N ai_T ai_B1 20000 191 (zz_fr zz_bo) = true := by decide +kernel
theorem zl_192 {sb : ai_SB} (ho : zz_open sb) : ∀ j, j < 192 → ct_ok zz_ctf zz_ctk sb j := ct_more (zl_191 ho) (ct_step (zz_fr zz_bo) zz_hf (zl_191 ho) rfl (by decide +kernel) (by decide +kernel) zs_191)
set_option maxRecDepth 100000 in
/-- cX9_fault(0,) -/
theorem zs_192 : ai_shows zz_fnd zz_ctf zz_ctk zz_N ai_T ai_B1 20000 192 (zz_fr zz_bo) = true := by decide +kernel
theorem zl_193 {sb : ai_SB} (ho : zz_open sb) : ∀ j, j < 193 → ct_ok zz_ctf zz_ctk sb j := ct_more (zl_192 ho) (ct_step (zz_fr zz_bo) zz_hf (zl_192 ho) rfl (by decide +kernel) (by decide +kernel) zs_192)
set_option maxRecDepth 100000 in
/-- cX9_feed(0,) -/
theorem zs_193 : ai_shows zz_fnd zz_ctf zz_ctk zz_N ai_T ai_B1 20000 193 (zz_fr zz_bo) = true := by decide +kernel
theorem zl_194 {sb : ai_SB} (ho : zz_open sb) : ∀ j, j < 194 → ct_ok zz_ctf zz_ctk sb j := ct_more (zl_193 ho) (ct_step (zz_fr zz_bo) zz_hf (zl_193 ho) rfl (by decide +kernel) (by decide +kernel) zs_193)
set_option maxRecDepth 100000 in
/-- cX9_force(0,) -/
theorem zs_194 : ai_shows zz_fnd zz_ctf zz_ctk zz_N ai_T ai_B1 20000 194 (zz_fr zz_bo) = true := by decide +kernel
theorem zl_195 {sb : ai_SB} (ho : zz_open sb) : ∀ j, j < 195 → ct_ok zz_ctf zz_ctk sb j := ct_more (zl_194 ho) (ct_step (zz_fr zz_bo) zz_hf (zl_194 ho) rfl (by decide +kernel) (by decide +kernel) zs_194)
set_option maxRecDepth 100000 in
/-- cX9_found(0,) -/
theorem zs_195 : ai_shows zz_fnd zz_ctf zz_ctk zz_N ai_T ai_B1 20000 195 (zz_fr zz_bo) = true := by decide +kernel
theorem zl_196 {sb : ai_SB} (ho : zz_open sb) : ∀ j, j < 196 → ct_ok zz_ctf zz_ctk sb j := ct_more (zl_195 ho) (ct_step (zz_fr zz_bo) zz_hf (zl_195 ho) rfl (by decide +kernel) (by decide +kernel) zs_195)

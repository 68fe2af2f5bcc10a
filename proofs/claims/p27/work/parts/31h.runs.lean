set_option maxRecDepth 100000 in
/-- cX6_mayStand(41,) -/
theorem zs_148 : ai_shows zz_fnd zz_ctf zz_ctk zz_N ai_T ai_B1 20000 148 (zz_fr zz_bo) = true := by decide +kernel
theorem zl_149 {sb : ai_SB} (ho : zz_open sb) : ∀ j, j < 149 → ct_ok zz_ctf zz_ctk sb j := ct_more (zl_148 ho) (ct_step (zz_fr zz_bo) zz_hf (zl_148 ho) rfl (by decide +kernel) (by decide +kernel) zs_148)
set_option maxRecDepth 100000 in
/-- cX6_holder(41,) -/
theorem zs_149 : ai_shows zz_fnd zz_ctf zz_ctk zz_N ai_T ai_B1 20000 149 (zz_fr zz_bo) = true := by decide +kernel
theorem zl_150 {sb : ai_SB} (ho : zz_open sb) : ∀ j, j < 150 → ct_ok zz_ctf zz_ctk sb j := ct_more (zl_149 ho) (ct_step (zz_fr zz_bo) zz_hf (zl_149 ho) rfl (by decide +kernel) (by decide +kernel) zs_149)
set_option maxRecDepth 100000 in
/-- cX6_margin(41,) -/
theorem zs_150 : ai_shows zz_fnd zz_ctf zz_ctk zz_N ai_T ai_B1 20000 150 (zz_fr zz_bo) = true := by decide +kernel
theorem zl_151 {sb : ai_SB} (ho : zz_open sb) : ∀ j, j < 151 → ct_ok zz_ctf zz_ctk sb j := ct_more (zl_150 ho) (ct_step (zz_fr zz_bo) zz_hf (zl_150 ho) rfl (by decide +kernel) (by decide +kernel) zs_150)
set_option maxRecDepth 100000 in
/-- cX6_hangs(41,) -/
theorem zs_151 : ai_shows zz_fnd zz_ctf zz_ctk zz_N ai_T ai_B1 20000 151 (zz_fr zz_bo) = true := by decide +kernel
theorem zl_152 {sb : ai_SB} (ho : zz_open sb) : ∀ j, j < 152 → ct_ok zz_ctf zz_ctk sb j := ct_more (zl_151 ho) (ct_step (zz_fr zz_bo) zz_hf (zl_151 ho) rfl (by decide +kernel) (by decide +kernel) zs_151)
set_option maxRecDepth 100000 in
/-- cX6_join(41,) -/
theorem zs_152 : ai_shows zz_fnd zz_ctf zz_ctk zz_N ai_T ai_B1 20000 152 (zz_fr zz_bo) = true := by decide +kernel
theorem zl_153 {sb : ai_SB} (ho : zz_open sb) : ∀ j, j < 153 → ct_ok zz_ctf zz_ctk sb j := ct_more (zl_152 ho) (ct_step (zz_fr zz_bo) zz_hf (zl_152 ho) rfl (by decide +kernel) (by decide +kernel) zs_152)
set_option maxRecDepth 100000 in
/-- cX6_joinedBooths(41,) -/
theorem zs_153 : ai_shows zz_fnd zz_ctf zz_ctk zz_N ai_T ai_B1 20000 153 (zz_fr zz_bo) = true := by decide +kernel
theorem zl_154 {sb : ai_SB} (ho : zz_open sb) : ∀ j, j < 154 → ct_ok zz_ctf zz_ctk sb j := ct_more (zl_153 ho) (ct_step (zz_fr zz_bo) zz_hf (zl_153 ho) rfl (by decide +kernel) (by decide +kernel) zs_153)
set_option maxRecDepth 100000 in
/-- cX6_joinedSum(41,) -/
theorem zs_154 : ai_shows zz_fnd zz_ctf zz_ctk zz_N ai_T ai_B1 20000 154 (zz_fr zz_bo) = true := by decide +kernel
theorem zl_155 {sb : ai_SB} (ho : zz_open sb) : ∀ j, j < 155 → ct_ok zz_ctf zz_ctk sb j := ct_more (zl_154 ho) (ct_step (zz_fr zz_bo) zz_hf (zl_154 ho) rfl (by decide +kernel) (by decide +kernel) zs_154)
set_option maxRecDepth 100000 in
/-- cX9_unset(49,) -/
theorem zs_155 : ai_shows zz_fnd zz_ctf zz_ctk zz_N ai_T ai_B1 20000 155 (zz_fr zz_bo) = true := by decide +kernel
theorem zl_156 {sb : ai_SB} (ho : zz_open sb) : ∀ j, j < 156 → ct_ok zz_ctf zz_ctk sb j := ct_more (zl_155 ho) (ct_step (zz_fr zz_bo) zz_hf (zl_155 ho) rfl (by decide +kernel) (by decide +kernel) zs_155)
set_option maxRecDepth 100000 in
/-- cX6_readCounts(41,) -/
theorem zs_156 : ai_shows zz_fnd zz_ctf zz_ctk zz_N ai_T ai_B1 20000 156 (zz_fr zz_bo) = true := by decide +kernel
theorem zl_157 {sb : ai_SB} (ho : zz_open sb) : ∀ j, j < 157 → ct_ok zz_ctf zz_ctk sb j := ct_more (zl_156 ho) (ct_step (zz_fr zz_bo) zz_hf (zl_156 ho) rfl (by decide +kernel) (by decide +kernel) zs_156)
set_option maxRecDepth 100000 in
/-- cX9_unset(44,) -/
theorem zs_157 : ai_shows zz_fnd zz_ctf zz_ctk zz_N ai_T ai_B1 20000 157 (zz_fr zz_bo) = true := by decide +kernel
theorem zl_158 {sb : ai_SB} (ho : zz_open sb) : ∀ j, j < 158 → ct_ok zz_ctf zz_ctk sb j := ct_more (zl_157 ho) (ct_step (zz_fr zz_bo) zz_hf (zl_157 ho) rfl (by decide +kernel) (by decide +kernel) zs_157)
set_option maxRecDepth 100000 in
/-- cX6_readHanded(41,) -/
theorem zs_158 : ai_shows zz_fnd zz_ctf zz_ctk zz_N ai_T ai_B1 20000 158 (zz_fr zz_bo) = true := by decide +kernel
theorem zl_159 {sb : ai_SB} (ho : zz_open sb) : ∀ j, j < 159 → ct_ok zz_ctf zz_ctk sb j := ct_more (zl_158 ho) (ct_step (zz_fr zz_bo) zz_hf (zl_158 ho) rfl (by decide +kernel) (by decide +kernel) zs_158)
set_option maxRecDepth 100000 in
/-- cX6_readPapers(41,) -/
theorem zs_159 : ai_shows zz_fnd zz_ctf zz_ctk zz_N ai_T ai_B1 20000 159 (zz_fr zz_bo) = true := by decide +kernel
theorem zl_160 {sb : ai_SB} (ho : zz_open sb) : ∀ j, j < 160 → ct_ok zz_ctf zz_ctk sb j := ct_more (zl_159 ho) (ct_step (zz_fr zz_bo) zz_hf (zl_159 ho) rfl (by decide +kernel) (by decide +kernel) zs_159)
set_option maxRecDepth 100000 in
/-- cX6_reckon(41,) -/
theorem zs_160 : ai_shows zz_fnd zz_ctf zz_ctk zz_N ai_T ai_B1 20000 160 (zz_fr zz_bo) = true := by decide +kernel
theorem zl_161 {sb : ai_SB} (ho : zz_open sb) : ∀ j, j < 161 → ct_ok zz_ctf zz_ctk sb j := ct_more (zl_160 ho) (ct_step (zz_fr zz_bo) zz_hf (zl_160 ho) rfl (by decide +kernel) (by decide +kernel) zs_160)
set_option maxRecDepth 100000 in
/-- cX6_sumByAllSeats(41,) -/
theorem zs_161 : ai_shows zz_fnd zz_ctf zz_ctk zz_N ai_T ai_B1 20000 161 (zz_fr zz_bo) = true := by decide +kernel
theorem zl_162 {sb : ai_SB} (ho : zz_open sb) : ∀ j, j < 162 → ct_ok zz_ctf zz_ctk sb j := ct_more (zl_161 ho) (ct_step (zz_fr zz_bo) zz_hf (zl_161 ho) rfl (by decide +kernel) (by decide +kernel) zs_161)
set_option maxRecDepth 100000 in
/-- cX6_shareOf(41,) -/
theorem zs_162 : ai_shows zz_fnd zz_ctf zz_ctk zz_N ai_T ai_B1 20000 162 (zz_fr zz_bo) = true := by decide +kernel
theorem zl_163 {sb : ai_SB} (ho : zz_open sb) : ∀ j, j < 163 → ct_ok zz_ctf zz_ctk sb j := ct_more (zl_162 ho) (ct_step (zz_fr zz_bo) zz_hf (zl_162 ho) rfl (by decide +kernel) (by decide +kernel) zs_162)
set_option maxRecDepth 100000 in
/-- cX6_toldOf(41,) -/
theorem zs_163 : ai_shows zz_fnd zz_ctf zz_ctk zz_N ai_T ai_B1 20000 163 (zz_fr zz_bo) = true := by decide +kernel
theorem zl_164 {sb : ai_SB} (ho : zz_open sb) : ∀ j, j < 164 → ct_ok zz_ctf zz_ctk sb j := ct_more (zl_163 ho) (ct_step (zz_fr zz_bo) zz_hf (zl_163 ho) rfl (by decide +kernel) (by decide +kernel) zs_163)
set_option maxRecDepth 100000 in
/-- cX7_putInForce(31,) -/
theorem zs_164 : ai_shows zz_fnd zz_ctf zz_ctk zz_N ai_T ai_B1 20000 164 (zz_fr zz_bo) = true := by decide +kernel
theorem zl_165 {sb : ai_SB} (ho : zz_open sb) : ∀ j, j < 165 → ct_ok zz_ctf zz_ctk sb j := ct_more (zl_164 ho) (ct_step (zz_fr zz_bo) zz_hf (zl_164 ho) rfl (by decide +kernel) (by decide +kernel) zs_164)
set_option maxRecDepth 100000 in
/-- cX9_unset(32,) -/
theorem zs_165 : ai_shows zz_fnd zz_ctf zz_ctk zz_N ai_T ai_B1 20000 165 (zz_fr zz_bo) = true := by decide +kernel
theorem zl_166 {sb : ai_SB} (ho : zz_open sb) : ∀ j, j < 166 → ct_ok zz_ctf zz_ctk sb j := ct_more (zl_165 ho) (ct_step (zz_fr zz_bo) zz_hf (zl_165 ho) rfl (by decide +kernel) (by decide +kernel) zs_165)
set_option maxRecDepth 100000 in
/-- cX9_unset(33,) -/
theorem zs_166 : ai_shows zz_fnd zz_ctf zz_ctk zz_N ai_T ai_B1 20000 166 (zz_fr zz_bo) = true := by decide +kernel
theorem zl_167 {sb : ai_SB} (ho : zz_open sb) : ∀ j, j < 167 → ct_ok zz_ctf zz_ctk sb j := ct_more (zl_166 ho) (ct_step (zz_fr zz_bo) zz_hf (zl_166 ho) rfl (by decide +kernel) (by decide +kernel) zs_166)
set_option maxRecDepth 100000 in
/-- cX7_findInForce(31,) -/
theorem zs_167 : ai_shows zz_fnd zz_ctf zz_ctk zz_N ai_T ai_B1 20000 167 (zz_fr zz_bo) = true := by decide +kernel
theorem zl_168 {sb : ai_SB} (ho : zz_open sb) : ∀ j, j < 168 → ct_ok zz_ctf zz_ctk sb j := ct_more (zl_167 ho) (ct_step (zz_fr zz_bo) zz_hf (zl_167 ho) rfl (by decide +kernel) (by decide +kernel) zs_167)
set_option maxRecDepth 100000 in
/-- cX7_hasCome(31,) -/
theorem zs_168 : ai_shows zz_fnd zz_ctf zz_ctk zz_N ai_T ai_B1 20000 168 (zz_fr zz_bo) = true := by decide +kernel
theorem zl_169 {sb : ai_SB} (ho : zz_open sb) : ∀ j, j < 169 → ct_ok zz_ctf zz_ctk sb j := ct_more (zl_168 ho) (ct_step (zz_fr zz_bo) zz_hf (zl_168 ho) rfl (by decide +kernel) (by decide +kernel) zs_168)
set_option maxRecDepth 100000 in
/-- cX7_placeThen(31,) -/
theorem zs_169 : ai_shows zz_fnd zz_ctf zz_ctk zz_N ai_T ai_B1 20000 169 (zz_fr zz_bo) = true := by decide +kernel
theorem zl_170 {sb : ai_SB} (ho : zz_open sb) : ∀ j, j < 170 → ct_ok zz_ctf zz_ctk sb j := ct_more (zl_169 ho) (ct_step (zz_fr zz_bo) zz_hf (zl_169 ho) rfl (by decide +kernel) (by decide +kernel) zs_169)
set_option maxRecDepth 100000 in
/-- cX7_tellName(31,) -/
theorem zs_170 : ai_shows zz_fnd zz_ctf zz_ctk zz_N ai_T ai_B1 20000 170 (zz_fr zz_bo) = true := by decide +kernel
theorem zl_171 {sb : ai_SB} (ho : zz_open sb) : ∀ j, j < 171 → ct_ok zz_ctf zz_ctk sb j := ct_more (zl_170 ho) (ct_step (zz_fr zz_bo) zz_hf (zl_170 ho) rfl (by decide +kernel) (by decide +kernel) zs_170)

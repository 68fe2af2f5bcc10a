set_option maxRecDepth 100000 in
/-- cX7_isOnRoll(31,) -/
theorem zs_156 : ai_shows zz_fnd zz_ctf zz_ctk zz_N ai_T ai_B1 20000 156 (zz_fr zz_bo) = true := by decide +kernel
theorem zl_157 {sb : Nat} (ho : zz_open sb) : ∀ j, j < 157 → ct_ok zz_ctf zz_ctk sb j := ct_more (zl_156 ho) (ct_step (zz_fr zz_bo) zz_hf (zl_156 ho) rfl (by decide +kernel) (by decide +kernel) zs_156)
set_option maxRecDepth 100000 in
/-- cX7_lookAtRolls(31,) -/
theorem zs_157 : ai_shows zz_fnd zz_ctf zz_ctk zz_N ai_T ai_B1 20000 157 (zz_fr zz_bo) = true := by decide +kernel
theorem zl_158 {sb : Nat} (ho : zz_open sb) : ∀ j, j < 158 → ct_ok zz_ctf zz_ctk sb j := ct_more (zl_157 ho) (ct_step (zz_fr zz_bo) zz_hf (zl_157 ho) rfl (by decide +kernel) (by decide +kernel) zs_157)
set_option maxRecDepth 100000 in
/-- cX7_pairAt(31,) -/
theorem zs_158 : ai_shows zz_fnd zz_ctf zz_ctk zz_N ai_T ai_B1 20000 158 (zz_fr zz_bo) = true := by decide +kernel
theorem zl_159 {sb : Nat} (ho : zz_open sb) : ∀ j, j < 159 → ct_ok zz_ctf zz_ctk sb j := ct_more (zl_158 ho) (ct_step (zz_fr zz_bo) zz_hf (zl_158 ho) rfl (by decide +kernel) (by decide +kernel) zs_158)
set_option maxRecDepth 100000 in
/-- cX8_areAllThere(53,) -/
theorem zs_159 : ai_shows zz_fnd zz_ctf zz_ctk zz_N ai_T ai_B1 20000 159 (zz_fr zz_bo) = true := by decide +kernel
theorem zl_160 {sb : Nat} (ho : zz_open sb) : ∀ j, j < 160 → ct_ok zz_ctf zz_ctk sb j := ct_more (zl_159 ho) (ct_step (zz_fr zz_bo) zz_hf (zl_159 ho) rfl (by decide +kernel) (by decide +kernel) zs_159)
set_option maxRecDepth 100000 in
/-- cX8_holds(53,) -/
theorem zs_160 : ai_shows zz_fnd zz_ctf zz_ctk zz_N ai_T ai_B1 20000 160 (zz_fr zz_bo) = true := by decide +kernel
theorem zl_161 {sb : Nat} (ho : zz_open sb) : ∀ j, j < 161 → ct_ok zz_ctf zz_ctk sb j := ct_more (zl_160 ho) (ct_step (zz_fr zz_bo) zz_hf (zl_160 ho) rfl (by decide +kernel) (by decide +kernel) zs_160)
set_option maxRecDepth 100000 in
/-- cX9_all(0,) -/
theorem zs_161 : ai_shows zz_fnd zz_ctf zz_ctk zz_N ai_T ai_B1 20000 161 (zz_fr zz_bo) = true := by decide +kernel
theorem zl_162 {sb : Nat} (ho : zz_open sb) : ∀ j, j < 162 → ct_ok zz_ctf zz_ctk sb j := ct_more (zl_161 ho) (ct_step (zz_fr zz_bo) zz_hf (zl_161 ho) rfl (by decide +kernel) (by decide +kernel) zs_161)
set_option maxRecDepth 100000 in
/-- cX9_alter(0,) -/
theorem zs_162 : ai_shows zz_fnd zz_ctf zz_ctk zz_N ai_T ai_B1 20000 162 (zz_fr zz_bo) = true := by decide +kernel
theorem zl_163 {sb : Nat} (ho : zz_open sb) : ∀ j, j < 163 → ct_ok zz_ctf zz_ctk sb j := ct_more (zl_162 ho) (ct_step (zz_fr zz_bo) zz_hf (zl_162 ho) rfl (by decide +kernel) (by decide +kernel) zs_162)
set_option maxRecDepth 100000 in
/-- cX9_apart(0,) -/
theorem zs_163 : ai_shows zz_fnd zz_ctf zz_ctk zz_N ai_T ai_B1 20000 163 (zz_fr zz_bo) = true := by decide +kernel
theorem zl_164 {sb : Nat} (ho : zz_open sb) : ∀ j, j < 164 → ct_ok zz_ctf zz_ctk sb j := ct_more (zl_163 ho) (ct_step (zz_fr zz_bo) zz_hf (zl_163 ho) rfl (by decide +kernel) (by decide +kernel) zs_163)
set_option maxRecDepth 100000 in
/-- cX9_booth(0,) -/
theorem zs_164 : ai_shows zz_fnd zz_ctf zz_ctk zz_N ai_T ai_B1 20000 164 (zz_fr zz_bo) = true := by decide +kernel
theorem zl_165 {sb : Nat} (ho : zz_open sb) : ∀ j, j < 165 → ct_ok zz_ctf zz_ctk sb j := ct_more (zl_164 ho) (ct_step (zz_fr zz_bo) zz_hf (zl_164 ho) rfl (by decide +kernel) (by decide +kernel) zs_164)
set_option maxRecDepth 100000 in
/-- cX9_booths(0,) -/
theorem zs_165 : ai_shows zz_fnd zz_ctf zz_ctk zz_N ai_T ai_B1 20000 165 (zz_fr zz_bo) = true := by decide +kernel
theorem zl_166 {sb : Nat} (ho : zz_open sb) : ∀ j, j < 166 → ct_ok zz_ctf zz_ctk sb j := ct_more (zl_165 ho) (ct_step (zz_fr zz_bo) zz_hf (zl_165 ho) rfl (by decide +kernel) (by decide +kernel) zs_165)
set_option maxRecDepth 100000 in
/-- cX9_box(0,) -/
theorem zs_166 : ai_shows zz_fnd zz_ctf zz_ctk zz_N ai_T ai_B1 20000 166 (zz_fr zz_bo) = true := by decide +kernel
theorem zl_167 {sb : Nat} (ho : zz_open sb) : ∀ j, j < 167 → ct_ok zz_ctf zz_ctk sb j := ct_more (zl_166 ho) (ct_step (zz_fr zz_bo) zz_hf (zl_166 ho) rfl (by decide +kernel) (by decide +kernel) zs_166)
set_option maxRecDepth 100000 in
/-- cX9_broken(0,) -/
theorem zs_167 : ai_shows zz_fnd zz_ctf zz_ctk zz_N ai_T ai_B1 20000 167 (zz_fr zz_bo) = true := by decide +kernel
theorem zl_168 {sb : Nat} (ho : zz_open sb) : ∀ j, j < 168 → ct_ok zz_ctf zz_ctk sb j := ct_more (zl_167 ho) (ct_step (zz_fr zz_bo) zz_hf (zl_167 ho) rfl (by decide +kernel) (by decide +kernel) zs_167)
set_option maxRecDepth 100000 in
/-- cX9_canBeName() -/
theorem zs_168 : ai_shows zz_fnd zz_ctf zz_ctk zz_N ai_T ai_B1 20000 168 (zz_fr zz_bo) = true := by decide +kernel
theorem zl_169 {sb : Nat} (ho : zz_open sb) : ∀ j, j < 169 → ct_ok zz_ctf zz_ctk sb j := ct_more (zl_168 ho) (ct_step (zz_fr zz_bo) zz_hf (zl_168 ho) rfl (by decide +kernel) (by decide +kernel) zs_168)
set_option maxRecDepth 100000 in
/-- cX9_choices() -/
theorem zs_169 : ai_shows zz_fnd zz_ctf zz_ctk zz_N ai_T ai_B1 20000 169 (zz_fr zz_bo) = true := by decide +kernel
theorem zl_170 {sb : Nat} (ho : zz_open sb) : ∀ j, j < 170 → ct_ok zz_ctf zz_ctk sb j := ct_more (zl_169 ho) (ct_step (zz_fr zz_bo) zz_hf (zl_169 ho) rfl (by decide +kernel) (by decide +kernel) zs_169)
set_option maxRecDepth 100000 in
/-- cX9_clear(0,) -/
theorem zs_170 : ai_shows zz_fnd zz_ctf zz_ctk zz_N ai_T ai_B1 20000 170 (zz_fr zz_bo) = true := by decide +kernel
theorem zl_171 {sb : Nat} (ho : zz_open sb) : ∀ j, j < 171 → ct_ok zz_ctf zz_ctk sb j := ct_more (zl_170 ho) (ct_step (zz_fr zz_bo) zz_hf (zl_170 ho) rfl (by decide +kernel) (by decide +kernel) zs_170)
set_option maxRecDepth 100000 in
/-- cX9_count(0,) -/
theorem zs_171 : ai_shows zz_fnd zz_ctf zz_ctk zz_N ai_T ai_B1 20000 171 (zz_fr zz_bo) = true := by decide +kernel
theorem zl_172 {sb : Nat} (ho : zz_open sb) : ∀ j, j < 172 → ct_ok zz_ctf zz_ctk sb j := ct_more (zl_171 ho) (ct_step (zz_fr zz_bo) zz_hf (zl_171 ho) rfl (by decide +kernel) (by decide +kernel) zs_171)
set_option maxRecDepth 100000 in
/-- cX9_waysToDraw() -/
theorem zs_172 : ai_shows zz_fnd zz_ctf zz_ctk zz_N ai_T ai_B1 20000 172 (zz_fr zz_bo) = true := by decide +kernel
theorem zl_173 {sb : Nat} (ho : zz_open sb) : ∀ j, j < 173 → ct_ok zz_ctf zz_ctk sb j := ct_more (zl_172 ho) (ct_step (zz_fr zz_bo) zz_hf (zl_172 ho) rfl (by decide +kernel) (by decide +kernel) zs_172)
set_option maxRecDepth 100000 in
/-- cX9_doors(0,) -/
theorem zs_173 : ai_shows zz_fnd zz_ctf zz_ctk zz_N ai_T ai_B1 20000 173 (zz_fr zz_bo) = true := by decide +kernel
theorem zl_174 {sb : Nat} (ho : zz_open sb) : ∀ j, j < 174 → ct_ok zz_ctf zz_ctk sb j := ct_more (zl_173 ho) (ct_step (zz_fr zz_bo) zz_hf (zl_173 ho) rfl (by decide +kernel) (by decide +kernel) zs_173)
set_option maxRecDepth 100000 in
/-- cX9_end(0,) -/
theorem zs_174 : ai_shows zz_fnd zz_ctf zz_ctk zz_N ai_T ai_B1 20000 174 (zz_fr zz_bo) = true := by decide +kernel
theorem zl_175 {sb : Nat} (ho : zz_open sb) : ∀ j, j < 175 → ct_ok zz_ctf zz_ctk sb j := ct_more (zl_174 ho) (ct_step (zz_fr zz_bo) zz_hf (zl_174 ho) rfl (by decide +kernel) (by decide +kernel) zs_174)
set_option maxRecDepth 100000 in
/-- cX9_fault(0,) -/
theorem zs_175 : ai_shows zz_fnd zz_ctf zz_ctk zz_N ai_T ai_B1 20000 175 (zz_fr zz_bo) = true := by decide +kernel
theorem zl_176 {sb : Nat} (ho : zz_open sb) : ∀ j, j < 176 → ct_ok zz_ctf zz_ctk sb j := ct_more (zl_175 ho) (ct_step (zz_fr zz_bo) zz_hf (zl_175 ho) rfl (by decide +kernel) (by decide +kernel) zs_175)
set_option maxRecDepth 100000 in
/-- cX9_feed(0,) -/
theorem zs_176 : ai_shows zz_fnd zz_ctf zz_ctk zz_N ai_T ai_B1 20000 176 (zz_fr zz_bo) = true := by decide +kernel
theorem zl_177 {sb : Nat} (ho : zz_open sb) : ∀ j, j < 177 → ct_ok zz_ctf zz_ctk sb j := ct_more (zl_176 ho) (ct_step (zz_fr zz_bo) zz_hf (zl_176 ho) rfl (by decide +kernel) (by decide +kernel) zs_176)
set_option maxRecDepth 100000 in
/-- cX9_force(0,) -/
theorem zs_177 : ai_shows zz_fnd zz_ctf zz_ctk zz_N ai_T ai_B1 20000 177 (zz_fr zz_bo) = true := by decide +kernel
theorem zl_178 {sb : Nat} (ho : zz_open sb) : ∀ j, j < 178 → ct_ok zz_ctf zz_ctk sb j := ct_more (zl_177 ho) (ct_step (zz_fr zz_bo) zz_hf (zl_177 ho) rfl (by decide +kernel) (by decide +kernel) zs_177)
set_option maxRecDepth 100000 in
/-- cX9_found(0,) -/
theorem zs_178 : ai_shows zz_fnd zz_ctf zz_ctk zz_N ai_T ai_B1 20000 178 (zz_fr zz_bo) = true := by decide +kernel
theorem zl_179 {sb : Nat} (ho : zz_open sb) : ∀ j, j < 179 → ct_ok zz_ctf zz_ctk sb j := ct_more (zl_178 ho) (ct_step (zz_fr zz_bo) zz_hf (zl_178 ho) rfl (by decide +kernel) (by decide +kernel) zs_178)
set_option maxRecDepth 100000 in
/-- cX9_hand(0,) -/
theorem zs_179 : ai_shows zz_fnd zz_ctf zz_ctk zz_N ai_T ai_B1 20000 179 (zz_fr zz_bo) = true := by decide +kernel
theorem zl_180 {sb : Nat} (ho : zz_open sb) : ∀ j, j < 180 → ct_ok zz_ctf zz_ctk sb j := ct_more (zl_179 ho) (ct_step (zz_fr zz_bo) zz_hf (zl_179 ho) rfl (by decide +kernel) (by decide +kernel) zs_179)

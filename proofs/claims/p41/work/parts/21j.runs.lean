set_option maxRecDepth 100000 in
/-- cX6_mayStand(41,) -/
theorem zs_133 : ai_shows zz_fnd zz_ctf zz_ctk zz_N ai_T ai_B1 20000 133 (zz_fr zz_bo) = true := by decide +kernel
theorem zl_134 {sb : Nat} (ho : zz_open sb) : ∀ j, j < 134 → ct_ok zz_ctf zz_ctk sb j := ct_more (zl_133 ho) (ct_step (zz_fr zz_bo) zz_hf (zl_133 ho) rfl (by decide +kernel) (by decide +kernel) zs_133)
set_option maxRecDepth 100000 in
/-- cX6_holder(41,) -/
theorem zs_134 : ai_shows zz_fnd zz_ctf zz_ctk zz_N ai_T ai_B1 20000 134 (zz_fr zz_bo) = true := by decide +kernel
theorem zl_135 {sb : Nat} (ho : zz_open sb) : ∀ j, j < 135 → ct_ok zz_ctf zz_ctk sb j := ct_more (zl_134 ho) (ct_step (zz_fr zz_bo) zz_hf (zl_134 ho) rfl (by decide +kernel) (by decide +kernel) zs_134)
set_option maxRecDepth 100000 in
/-- cX6_margin(41,) -/
theorem zs_135 : ai_shows zz_fnd zz_ctf zz_ctk zz_N ai_T ai_B1 20000 135 (zz_fr zz_bo) = true := by decide +kernel
theorem zl_136 {sb : Nat} (ho : zz_open sb) : ∀ j, j < 136 → ct_ok zz_ctf zz_ctk sb j := ct_more (zl_135 ho) (ct_step (zz_fr zz_bo) zz_hf (zl_135 ho) rfl (by decide +kernel) (by decide +kernel) zs_135)
set_option maxRecDepth 100000 in
/-- cX6_hangs(41,) -/
theorem zs_136 : ai_shows zz_fnd zz_ctf zz_ctk zz_N ai_T ai_B1 20000 136 (zz_fr zz_bo) = true := by decide +kernel
theorem zl_137 {sb : Nat} (ho : zz_open sb) : ∀ j, j < 137 → ct_ok zz_ctf zz_ctk sb j := ct_more (zl_136 ho) (ct_step (zz_fr zz_bo) zz_hf (zl_136 ho) rfl (by decide +kernel) (by decide +kernel) zs_136)
set_option maxRecDepth 100000 in
/-- cX6_join(41,) -/
theorem zs_137 : ai_shows zz_fnd zz_ctf zz_ctk zz_N ai_T ai_B1 20000 137 (zz_fr zz_bo) = true := by decide +kernel
theorem zl_138 {sb : Nat} (ho : zz_open sb) : ∀ j, j < 138 → ct_ok zz_ctf zz_ctk sb j := ct_more (zl_137 ho) (ct_step (zz_fr zz_bo) zz_hf (zl_137 ho) rfl (by decide +kernel) (by decide +kernel) zs_137)
set_option maxRecDepth 100000 in
/-- cX6_joinedBooths(41,) -/
theorem zs_138 : ai_shows zz_fnd zz_ctf zz_ctk zz_N ai_T ai_B1 20000 138 (zz_fr zz_bo) = true := by decide +kernel
theorem zl_139 {sb : Nat} (ho : zz_open sb) : ∀ j, j < 139 → ct_ok zz_ctf zz_ctk sb j := ct_more (zl_138 ho) (ct_step (zz_fr zz_bo) zz_hf (zl_138 ho) rfl (by decide +kernel) (by decide +kernel) zs_138)
set_option maxRecDepth 100000 in
/-- cX6_joinedSum(41,) -/
theorem zs_139 : ai_shows zz_fnd zz_ctf zz_ctk zz_N ai_T ai_B1 20000 139 (zz_fr zz_bo) = true := by decide +kernel
theorem zl_140 {sb : Nat} (ho : zz_open sb) : ∀ j, j < 140 → ct_ok zz_ctf zz_ctk sb j := ct_more (zl_139 ho) (ct_step (zz_fr zz_bo) zz_hf (zl_139 ho) rfl (by decide +kernel) (by decide +kernel) zs_139)
set_option maxRecDepth 100000 in
/-- cX9_unset(49,) -/
theorem zs_140 : ai_shows zz_fnd zz_ctf zz_ctk zz_N ai_T ai_B1 20000 140 (zz_fr zz_bo) = true := by decide +kernel
theorem zl_141 {sb : Nat} (ho : zz_open sb) : ∀ j, j < 141 → ct_ok zz_ctf zz_ctk sb j := ct_more (zl_140 ho) (ct_step (zz_fr zz_bo) zz_hf (zl_140 ho) rfl (by decide +kernel) (by decide +kernel) zs_140)
set_option maxRecDepth 100000 in
/-- cX6_readCounts(41,) -/
theorem zs_141 : ai_shows zz_fnd zz_ctf zz_ctk zz_N ai_T ai_B1 20000 141 (zz_fr zz_bo) = true := by decide +kernel
theorem zl_142 {sb : Nat} (ho : zz_open sb) : ∀ j, j < 142 → ct_ok zz_ctf zz_ctk sb j := ct_more (zl_141 ho) (ct_step (zz_fr zz_bo) zz_hf (zl_141 ho) rfl (by decide +kernel) (by decide +kernel) zs_141)
set_option maxRecDepth 100000 in
/-- cX9_unset(44,) -/
theorem zs_142 : ai_shows zz_fnd zz_ctf zz_ctk zz_N ai_T ai_B1 20000 142 (zz_fr zz_bo) = true := by decide +kernel
theorem zl_143 {sb : Nat} (ho : zz_open sb) : ∀ j, j < 143 → ct_ok zz_ctf zz_ctk sb j := ct_more (zl_142 ho) (ct_step (zz_fr zz_bo) zz_hf (zl_142 ho) rfl (by decide +kernel) (by decide +kernel) zs_142)
set_option maxRecDepth 100000 in
/-- cX6_readHanded(41,) -/
theorem zs_143 : ai_shows zz_fnd zz_ctf zz_ctk zz_N ai_T ai_B1 20000 143 (zz_fr zz_bo) = true := by decide +kernel
theorem zl_144 {sb : Nat} (ho : zz_open sb) : ∀ j, j < 144 → ct_ok zz_ctf zz_ctk sb j := ct_more (zl_143 ho) (ct_step (zz_fr zz_bo) zz_hf (zl_143 ho) rfl (by decide +kernel) (by decide +kernel) zs_143)
set_option maxRecDepth 100000 in
/-- cX6_readPapers(41,) -/
theorem zs_144 : ai_shows zz_fnd zz_ctf zz_ctk zz_N ai_T ai_B1 20000 144 (zz_fr zz_bo) = true := by decide +kernel
theorem zl_145 {sb : Nat} (ho : zz_open sb) : ∀ j, j < 145 → ct_ok zz_ctf zz_ctk sb j := ct_more (zl_144 ho) (ct_step (zz_fr zz_bo) zz_hf (zl_144 ho) rfl (by decide +kernel) (by decide +kernel) zs_144)
set_option maxRecDepth 100000 in
/-- cX6_reckon(41,) -/
theorem zs_145 : ai_shows zz_fnd zz_ctf zz_ctk zz_N ai_T ai_B1 20000 145 (zz_fr zz_bo) = true := by decide +kernel
theorem zl_146 {sb : Nat} (ho : zz_open sb) : ∀ j, j < 146 → ct_ok zz_ctf zz_ctk sb j := ct_more (zl_145 ho) (ct_step (zz_fr zz_bo) zz_hf (zl_145 ho) rfl (by decide +kernel) (by decide +kernel) zs_145)
set_option maxRecDepth 100000 in
/-- cX6_sumByAllSeats(41,) -/
theorem zs_146 : ai_shows zz_fnd zz_ctf zz_ctk zz_N ai_T ai_B1 20000 146 (zz_fr zz_bo) = true := by decide +kernel
theorem zl_147 {sb : Nat} (ho : zz_open sb) : ∀ j, j < 147 → ct_ok zz_ctf zz_ctk sb j := ct_more (zl_146 ho) (ct_step (zz_fr zz_bo) zz_hf (zl_146 ho) rfl (by decide +kernel) (by decide +kernel) zs_146)
set_option maxRecDepth 100000 in
/-- cX6_shareOf(41,) -/
theorem zs_147 : ai_shows zz_fnd zz_ctf zz_ctk zz_N ai_T ai_B1 20000 147 (zz_fr zz_bo) = true := by decide +kernel
theorem zl_148 {sb : Nat} (ho : zz_open sb) : ∀ j, j < 148 → ct_ok zz_ctf zz_ctk sb j := ct_more (zl_147 ho) (ct_step (zz_fr zz_bo) zz_hf (zl_147 ho) rfl (by decide +kernel) (by decide +kernel) zs_147)
set_option maxRecDepth 100000 in
/-- cX6_toldOf(41,) -/
theorem zs_148 : ai_shows zz_fnd zz_ctf zz_ctk zz_N ai_T ai_B1 20000 148 (zz_fr zz_bo) = true := by decide +kernel
theorem zl_149 {sb : Nat} (ho : zz_open sb) : ∀ j, j < 149 → ct_ok zz_ctf zz_ctk sb j := ct_more (zl_148 ho) (ct_step (zz_fr zz_bo) zz_hf (zl_148 ho) rfl (by decide +kernel) (by decide +kernel) zs_148)
set_option maxRecDepth 100000 in
/-- cX7_putInForce(31,) -/
theorem zs_149 : ai_shows zz_fnd zz_ctf zz_ctk zz_N ai_T ai_B1 20000 149 (zz_fr zz_bo) = true := by decide +kernel
theorem zl_150 {sb : Nat} (ho : zz_open sb) : ∀ j, j < 150 → ct_ok zz_ctf zz_ctk sb j := ct_more (zl_149 ho) (ct_step (zz_fr zz_bo) zz_hf (zl_149 ho) rfl (by decide +kernel) (by decide +kernel) zs_149)
set_option maxRecDepth 100000 in
/-- cX9_unset(32,) -/
theorem zs_150 : ai_shows zz_fnd zz_ctf zz_ctk zz_N ai_T ai_B1 20000 150 (zz_fr zz_bo) = true := by decide +kernel
theorem zl_151 {sb : Nat} (ho : zz_open sb) : ∀ j, j < 151 → ct_ok zz_ctf zz_ctk sb j := ct_more (zl_150 ho) (ct_step (zz_fr zz_bo) zz_hf (zl_150 ho) rfl (by decide +kernel) (by decide +kernel) zs_150)
set_option maxRecDepth 100000 in
/-- cX9_unset(33,) -/
theorem zs_151 : ai_shows zz_fnd zz_ctf zz_ctk zz_N ai_T ai_B1 20000 151 (zz_fr zz_bo) = true := by decide +kernel
theorem zl_152 {sb : Nat} (ho : zz_open sb) : ∀ j, j < 152 → ct_ok zz_ctf zz_ctk sb j := ct_more (zl_151 ho) (ct_step (zz_fr zz_bo) zz_hf (zl_151 ho) rfl (by decide +kernel) (by decide +kernel) zs_151)
set_option maxRecDepth 100000 in
/-- cX7_findInForce(31,) -/
theorem zs_152 : ai_shows zz_fnd zz_ctf zz_ctk zz_N ai_T ai_B1 20000 152 (zz_fr zz_bo) = true := by decide +kernel
theorem zl_153 {sb : Nat} (ho : zz_open sb) : ∀ j, j < 153 → ct_ok zz_ctf zz_ctk sb j := ct_more (zl_152 ho) (ct_step (zz_fr zz_bo) zz_hf (zl_152 ho) rfl (by decide +kernel) (by decide +kernel) zs_152)
set_option maxRecDepth 100000 in
/-- cX7_hasCome(31,) -/
theorem zs_153 : ai_shows zz_fnd zz_ctf zz_ctk zz_N ai_T ai_B1 20000 153 (zz_fr zz_bo) = true := by decide +kernel
theorem zl_154 {sb : Nat} (ho : zz_open sb) : ∀ j, j < 154 → ct_ok zz_ctf zz_ctk sb j := ct_more (zl_153 ho) (ct_step (zz_fr zz_bo) zz_hf (zl_153 ho) rfl (by decide +kernel) (by decide +kernel) zs_153)
set_option maxRecDepth 100000 in
/-- cX7_placeThen(31,) -/
theorem zs_154 : ai_shows zz_fnd zz_ctf zz_ctk zz_N ai_T ai_B1 20000 154 (zz_fr zz_bo) = true := by decide +kernel
theorem zl_155 {sb : Nat} (ho : zz_open sb) : ∀ j, j < 155 → ct_ok zz_ctf zz_ctk sb j := ct_more (zl_154 ho) (ct_step (zz_fr zz_bo) zz_hf (zl_154 ho) rfl (by decide +kernel) (by decide +kernel) zs_154)
set_option maxRecDepth 100000 in
/-- cX7_tellName(31,) -/
theorem zs_155 : ai_shows zz_fnd zz_ctf zz_ctk zz_N ai_T ai_B1 20000 155 (zz_fr zz_bo) = true := by decide +kernel
theorem zl_156 {sb : Nat} (ho : zz_open sb) : ∀ j, j < 156 → ct_ok zz_ctf zz_ctk sb j := ct_more (zl_155 ho) (ct_step (zz_fr zz_bo) zz_hf (zl_155 ho) rfl (by decide +kernel) (by decide +kernel) zs_155)

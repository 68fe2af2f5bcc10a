set_option maxRecDepth 100000 in
/-- cX4_keepLatest(57,) -/
theorem zs_125 : ai_shows zz_fnd zz_ctf zz_ctk zz_N ai_T ai_B1 20000 125 (zz_fr zz_bo) = true := by decide +kernel
theorem zl_126 {sb : ai_SB} (ho : zz_open sb) : ∀ j, j < 126 → ct_ok zz_ctf zz_ctk sb j := ct_more (zl_125 ho) (ct_step (zz_fr zz_bo) zz_hf (zl_125 ho) rfl (by decide +kernel) (by decide +kernel) zs_125)
set_option maxRecDepth 100000 in
/-- cX4_leastOfAll(57,) -/
theorem zs_126 : ai_shows zz_fnd zz_ctf zz_ctk zz_N ai_T ai_B1 20000 126 (zz_fr zz_bo) = true := by decide +kernel
theorem zl_127 {sb : ai_SB} (ho : zz_open sb) : ∀ j, j < 127 → ct_ok zz_ctf zz_ctk sb j := ct_more (zl_126 ho) (ct_step (zz_fr zz_bo) zz_hf (zl_126 ho) rfl (by decide +kernel) (by decide +kernel) zs_126)
set_option maxRecDepth 100000 in
/-- cX4_choose(57,) -/
theorem zs_127 : ai_shows zz_fnd zz_ctf zz_ctk zz_N ai_T ai_B1 20000 127 (zz_fr zz_bo) = true := by decide +kernel
theorem zl_128 {sb : ai_SB} (ho : zz_open sb) : ∀ j, j < 128 → ct_ok zz_ctf zz_ctk sb j := ct_more (zl_127 ho) (ct_step (zz_fr zz_bo) zz_hf (zl_127 ho) rfl (by decide +kernel) (by decide +kernel) zs_127)
set_option maxRecDepth 100000 in
/-- cX4_leadAll(57,) -/
theorem zs_128 : ai_shows zz_fnd zz_ctf zz_ctk zz_N ai_T ai_B1 20000 128 (zz_fr zz_bo) = true := by decide +kernel
theorem zl_129 {sb : ai_SB} (ho : zz_open sb) : ∀ j, j < 129 → ct_ok zz_ctf zz_ctk sb j := ct_more (zl_128 ho) (ct_step (zz_fr zz_bo) zz_hf (zl_128 ho) rfl (by decide +kernel) (by decide +kernel) zs_128)
set_option maxRecDepth 100000 in
/-- cX7_ruled(31,) -/
theorem zs_129 : ai_shows zz_fnd zz_ctf zz_ctk zz_N ai_T ai_B1 20000 129 (zz_fr zz_bo) = true := by decide +kernel
theorem zl_130 {sb : ai_SB} (ho : zz_open sb) : ∀ j, j < 130 → ct_ok zz_ctf zz_ctk sb j := ct_more (zl_129 ho) (ct_step (zz_fr zz_bo) zz_hf (zl_129 ho) rfl (by decide +kernel) (by decide +kernel) zs_129)
set_option maxRecDepth 100000 in
/-- cX7_tellPlace(31,) -/
theorem zs_130 : ai_shows zz_fnd zz_ctf zz_ctk zz_N ai_T ai_B1 20000 130 (zz_fr zz_bo) = true := by decide +kernel
theorem zl_131 {sb : ai_SB} (ho : zz_open sb) : ∀ j, j < 131 → ct_ok zz_ctf zz_ctk sb j := ct_more (zl_130 ho) (ct_step (zz_fr zz_bo) zz_hf (zl_130 ho) rfl (by decide +kernel) (by decide +kernel) zs_130)
set_option maxRecDepth 100000 in
/-- cX4_leadAlone(57,) -/
theorem zs_131 : ai_shows zz_fnd zz_ctf zz_ctk zz_N ai_T ai_B1 20000 131 (zz_fr zz_bo) = true := by decide +kernel
theorem zl_132 {sb : ai_SB} (ho : zz_open sb) : ∀ j, j < 132 → ct_ok zz_ctf zz_ctk sb j := ct_more (zl_131 ho) (ct_step (zz_fr zz_bo) zz_hf (zl_131 ho) rfl (by decide +kernel) (by decide +kernel) zs_131)
set_option maxRecDepth 100000 in
/-- cX4_letIn(57,) -/
theorem zs_132 : ai_shows zz_fnd zz_ctf zz_ctk zz_N ai_T ai_B1 20000 132 (zz_fr zz_bo) = true := by decide +kernel
theorem zl_133 {sb : ai_SB} (ho : zz_open sb) : ∀ j, j < 133 → ct_ok zz_ctf zz_ctk sb j := ct_more (zl_132 ho) (ct_step (zz_fr zz_bo) zz_hf (zl_132 ho) rfl (by decide +kernel) (by decide +kernel) zs_132)
set_option maxRecDepth 100000 in
/-- cX4_waysOf(57,) -/
theorem zs_133 : ai_shows zz_fnd zz_ctf zz_ctk zz_N ai_T ai_B1 20000 133 (zz_fr zz_bo) = true := by decide +kernel
theorem zl_134 {sb : ai_SB} (ho : zz_open sb) : ∀ j, j < 134 → ct_ok zz_ctf zz_ctk sb j := ct_more (zl_133 ho) (ct_step (zz_fr zz_bo) zz_hf (zl_133 ho) rfl (by decide +kernel) (by decide +kernel) zs_133)
set_option maxRecDepth 100000 in
/-- cX5_add(2,) -/
theorem zs_134 : ai_shows zz_fnd zz_ctf zz_ctk zz_N ai_T ai_B1 20000 134 (zz_fr zz_bo) = true := by decide +kernel
theorem zl_135 {sb : ai_SB} (ho : zz_open sb) : ∀ j, j < 135 → ct_ok zz_ctf zz_ctk sb j := ct_more (zl_134 ho) (ct_step (zz_fr zz_bo) zz_hf (zl_134 ho) rfl (by decide +kernel) (by decide +kernel) zs_134)
set_option maxRecDepth 100000 in
/-- cX5_add(4,) -/
theorem zs_135 : ai_shows zz_fnd zz_ctf zz_ctk zz_N ai_T ai_B1 20000 135 (zz_fr zz_bo) = true := by decide +kernel
theorem zl_136 {sb : ai_SB} (ho : zz_open sb) : ∀ j, j < 136 → ct_ok zz_ctf zz_ctk sb j := ct_more (zl_135 ho) (ct_step (zz_fr zz_bo) zz_hf (zl_135 ho) rfl (by decide +kernel) (by decide +kernel) zs_135)
set_option maxRecDepth 100000 in
/-- cX5_add(6,) -/
theorem zs_136 : ai_shows zz_fnd zz_ctf zz_ctk zz_N ai_T ai_B1 20000 136 (zz_fr zz_bo) = true := by decide +kernel
theorem zl_137 {sb : ai_SB} (ho : zz_open sb) : ∀ j, j < 137 → ct_ok zz_ctf zz_ctk sb j := ct_more (zl_136 ho) (ct_step (zz_fr zz_bo) zz_hf (zl_136 ho) rfl (by decide +kernel) (by decide +kernel) zs_136)
set_option maxRecDepth 100000 in
/-- cX5_add(8,) -/
theorem zs_137 : ai_shows zz_fnd zz_ctf zz_ctk zz_N ai_T ai_B1 20000 137 (zz_fr zz_bo) = true := by decide +kernel
theorem zl_138 {sb : ai_SB} (ho : zz_open sb) : ∀ j, j < 138 → ct_ok zz_ctf zz_ctk sb j := ct_more (zl_137 ho) (ct_step (zz_fr zz_bo) zz_hf (zl_137 ho) rfl (by decide +kernel) (by decide +kernel) zs_137)
set_option maxRecDepth 100000 in
/-- cX5_add(14,) -/
theorem zs_138 : ai_shows zz_fnd zz_ctf zz_ctk zz_N ai_T ai_B1 20000 138 (zz_fr zz_bo) = true := by decide +kernel
theorem zl_139 {sb : ai_SB} (ho : zz_open sb) : ∀ j, j < 139 → ct_ok zz_ctf zz_ctk sb j := ct_more (zl_138 ho) (ct_step (zz_fr zz_bo) zz_hf (zl_138 ho) rfl (by decide +kernel) (by decide +kernel) zs_138)
set_option maxRecDepth 100000 in
/-- cX5_add(16,) -/
theorem zs_139 : ai_shows zz_fnd zz_ctf zz_ctk zz_N ai_T ai_B1 20000 139 (zz_fr zz_bo) = true := by decide +kernel
theorem zl_140 {sb : ai_SB} (ho : zz_open sb) : ∀ j, j < 140 → ct_ok zz_ctf zz_ctk sb j := ct_more (zl_139 ho) (ct_step (zz_fr zz_bo) zz_hf (zl_139 ho) rfl (by decide +kernel) (by decide +kernel) zs_139)
set_option maxRecDepth 100000 in
/-- cX5_add(18,) -/
theorem zs_140 : ai_shows zz_fnd zz_ctf zz_ctk zz_N ai_T ai_B1 20000 140 (zz_fr zz_bo) = true := by decide +kernel
theorem zl_141 {sb : ai_SB} (ho : zz_open sb) : ∀ j, j < 141 → ct_ok zz_ctf zz_ctk sb j := ct_more (zl_140 ho) (ct_step (zz_fr zz_bo) zz_hf (zl_140 ho) rfl (by decide +kernel) (by decide +kernel) zs_140)
set_option maxRecDepth 100000 in
/-- cX5_add(20,) -/
theorem zs_141 : ai_shows zz_fnd zz_ctf zz_ctk zz_N ai_T ai_B1 20000 141 (zz_fr zz_bo) = true := by decide +kernel
theorem zl_142 {sb : ai_SB} (ho : zz_open sb) : ∀ j, j < 142 → ct_ok zz_ctf zz_ctk sb j := ct_more (zl_141 ho) (ct_step (zz_fr zz_bo) zz_hf (zl_141 ho) rfl (by decide +kernel) (by decide +kernel) zs_141)
set_option maxRecDepth 100000 in
/-- cX5_add(22,) -/
theorem zs_142 : ai_shows zz_fnd zz_ctf zz_ctk zz_N ai_T ai_B1 20000 142 (zz_fr zz_bo) = true := by decide +kernel
theorem zl_143 {sb : ai_SB} (ho : zz_open sb) : ∀ j, j < 143 → ct_ok zz_ctf zz_ctk sb j := ct_more (zl_142 ho) (ct_step (zz_fr zz_bo) zz_hf (zl_142 ho) rfl (by decide +kernel) (by decide +kernel) zs_142)
set_option maxRecDepth 100000 in
/-- cX6_addSymbols(41,) -/
theorem zs_143 : ai_shows zz_fnd zz_ctf zz_ctk zz_N ai_T ai_B1 20000 143 (zz_fr zz_bo) = true := by decide +kernel
theorem zl_144 {sb : ai_SB} (ho : zz_open sb) : ∀ j, j < 144 → ct_ok zz_ctf zz_ctk sb j := ct_more (zl_143 ho) (ct_step (zz_fr zz_bo) zz_hf (zl_143 ho) rfl (by decide +kernel) (by decide +kernel) zs_143)
set_option maxRecDepth 100000 in
/-- cX6_addValid(41,) -/
theorem zs_144 : ai_shows zz_fnd zz_ctf zz_ctk zz_N ai_T ai_B1 20000 144 (zz_fr zz_bo) = true := by decide +kernel
theorem zl_145 {sb : ai_SB} (ho : zz_open sb) : ∀ j, j < 145 → ct_ok zz_ctf zz_ctk sb j := ct_more (zl_144 ho) (ct_step (zz_fr zz_bo) zz_hf (zl_144 ho) rfl (by decide +kernel) (by decide +kernel) zs_144)
set_option maxRecDepth 100000 in
/-- cX6_figure(41,) -/
theorem zs_145 : ai_shows zz_fnd zz_ctf zz_ctk zz_N ai_T ai_B1 20000 145 (zz_fr zz_bo) = true := by decide +kernel
theorem zl_146 {sb : ai_SB} (ho : zz_open sb) : ∀ j, j < 146 → ct_ok zz_ctf zz_ctk sb j := ct_more (zl_145 ho) (ct_step (zz_fr zz_bo) zz_hf (zl_145 ho) rfl (by decide +kernel) (by decide +kernel) zs_145)
set_option maxRecDepth 100000 in
/-- cX6_lost(41,) -/
theorem zs_146 : ai_shows zz_fnd zz_ctf zz_ctk zz_N ai_T ai_B1 20000 146 (zz_fr zz_bo) = true := by decide +kernel
theorem zl_147 {sb : ai_SB} (ho : zz_open sb) : ∀ j, j < 147 → ct_ok zz_ctf zz_ctk sb j := ct_more (zl_146 ho) (ct_step (zz_fr zz_bo) zz_hf (zl_146 ho) rfl (by decide +kernel) (by decide +kernel) zs_146)
set_option maxRecDepth 100000 in
/-- cX6_askOrders(41,) -/
theorem zs_147 : ai_shows zz_fnd zz_ctf zz_ctk zz_N ai_T ai_B1 20000 147 (zz_fr zz_bo) = true := by decide +kernel
theorem zl_148 {sb : ai_SB} (ho : zz_open sb) : ∀ j, j < 148 → ct_ok zz_ctf zz_ctk sb j := ct_more (zl_147 ho) (ct_step (zz_fr zz_bo) zz_hf (zl_147 ho) rfl (by decide +kernel) (by decide +kernel) zs_147)

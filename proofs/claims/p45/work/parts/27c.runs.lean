set_option maxRecDepth 100000 in
/-- cX10_of(0,) -/
theorem ys_58 : ai_shows yz_fnd yz_ctf yz_ctk yz_N ai_T ai_B1 20000 58 yz_fr = true := by decide +kernel
theorem yl_59 {sb : ai_SB} : ∀ j, j < 59 → ct_ok yz_ctf yz_ctk sb j := ct_more yl_58 (ct_step yz_fr yz_hf yl_58 rfl (by decide +kernel) (by decide +kernel) ys_58)
set_option maxRecDepth 100000 in
/-- cX10_off(0,) -/
theorem ys_59 : ai_shows yz_fnd yz_ctf yz_ctk yz_N ai_T ai_B1 20000 59 yz_fr = true := by decide +kernel
theorem yl_60 {sb : ai_SB} : ∀ j, j < 60 → ct_ok yz_ctf yz_ctk sb j := ct_more yl_59 (ct_step yz_fr yz_hf yl_59 rfl (by decide +kernel) (by decide +kernel) ys_59)
set_option maxRecDepth 100000 in
/-- cX10_on(0,) -/
theorem ys_60 : ai_shows yz_fnd yz_ctf yz_ctk yz_N ai_T ai_B1 20000 60 yz_fr = true := by decide +kernel
theorem yl_61 {sb : ai_SB} : ∀ j, j < 61 → ct_ok yz_ctf yz_ctk sb j := ct_more yl_60 (ct_step yz_fr yz_hf yl_60 rfl (by decide +kernel) (by decide +kernel) ys_60)
set_option maxRecDepth 100000 in
/-- cX10_paper(0,) -/
theorem ys_61 : ai_shows yz_fnd yz_ctf yz_ctk yz_N ai_T ai_B1 20000 61 yz_fr = true := by decide +kernel
theorem yl_62 {sb : ai_SB} : ∀ j, j < 62 → ct_ok yz_ctf yz_ctk sb j := ct_more yl_61 (ct_step yz_fr yz_hf yl_61 rfl (by decide +kernel) (by decide +kernel) ys_61)
set_option maxRecDepth 100000 in
/-- cX10_place(0,) -/
theorem ys_62 : ai_shows yz_fnd yz_ctf yz_ctk yz_N ai_T ai_B1 20000 62 yz_fr = true := by decide +kernel
theorem yl_63 {sb : ai_SB} : ∀ j, j < 63 → ct_ok yz_ctf yz_ctk sb j := ct_more yl_62 (ct_step yz_fr yz_hf yl_62 rfl (by decide +kernel) (by decide +kernel) ys_62)
set_option maxRecDepth 100000 in
/-- cX10_roll(0,) -/
theorem ys_63 : ai_shows yz_fnd yz_ctf yz_ctk yz_N ai_T ai_B1 20000 63 yz_fr = true := by decide +kernel
theorem yl_64 {sb : ai_SB} : ∀ j, j < 64 → ct_ok yz_ctf yz_ctk sb j := ct_more yl_63 (ct_step yz_fr yz_hf yl_63 rfl (by decide +kernel) (by decide +kernel) ys_63)
set_option maxRecDepth 100000 in
/-- cX10_rule(0,) -/
theorem ys_64 : ai_shows yz_fnd yz_ctf yz_ctk yz_N ai_T ai_B1 20000 64 yz_fr = true := by decide +kernel
theorem yl_65 {sb : ai_SB} : ∀ j, j < 65 → ct_ok yz_ctf yz_ctk sb j := ct_more yl_64 (ct_step yz_fr yz_hf yl_64 rfl (by decide +kernel) (by decide +kernel) ys_64)
set_option maxRecDepth 100000 in
/-- cX10_seal(0,) -/
theorem ys_65 : ai_shows yz_fnd yz_ctf yz_ctk yz_N ai_T ai_B1 20000 65 yz_fr = true := by decide +kernel
theorem yl_66 {sb : ai_SB} : ∀ j, j < 66 → ct_ok yz_ctf yz_ctk sb j := ct_more yl_65 (ct_step yz_fr yz_hf yl_65 rfl (by decide +kernel) (by decide +kernel) ys_65)
set_option maxRecDepth 100000 in
/-- cX10_seat(0,) -/
theorem ys_66 : ai_shows yz_fnd yz_ctf yz_ctk yz_N ai_T ai_B1 20000 66 yz_fr = true := by decide +kernel
theorem yl_67 {sb : ai_SB} : ∀ j, j < 67 → ct_ok yz_ctf yz_ctk sb j := ct_more yl_66 (ct_step yz_fr yz_hf yl_66 rfl (by decide +kernel) (by decide +kernel) ys_66)
set_option maxRecDepth 100000 in
/-- cX10_shares(0,) -/
theorem ys_67 : ai_shows yz_fnd yz_ctf yz_ctk yz_N ai_T ai_B1 20000 67 yz_fr = true := by decide +kernel
theorem yl_68 {sb : ai_SB} : ∀ j, j < 68 → ct_ok yz_ctf yz_ctk sb j := ct_more yl_67 (ct_step yz_fr yz_hf yl_67 rfl (by decide +kernel) (by decide +kernel) ys_67)
set_option maxRecDepth 100000 in
/-- cX10_span(0,) -/
theorem ys_68 : ai_shows yz_fnd yz_ctf yz_ctk yz_N ai_T ai_B1 20000 68 yz_fr = true := by decide +kernel
theorem yl_69 {sb : ai_SB} : ∀ j, j < 69 → ct_ok yz_ctf yz_ctk sb j := ct_more yl_68 (ct_step yz_fr yz_hf yl_68 rfl (by decide +kernel) (by decide +kernel) ys_68)
set_option maxRecDepth 100000 in
/-- cX10_status(0,) -/
theorem ys_69 : ai_shows yz_fnd yz_ctf yz_ctk yz_N ai_T ai_B1 20000 69 yz_fr = true := by decide +kernel
theorem yl_70 {sb : ai_SB} : ∀ j, j < 70 → ct_ok yz_ctf yz_ctk sb j := ct_more yl_69 (ct_step yz_fr yz_hf yl_69 rfl (by decide +kernel) (by decide +kernel) ys_69)
set_option maxRecDepth 100000 in
/-- cX10_tells(0,) -/
theorem ys_70 : ai_shows yz_fnd yz_ctf yz_ctk yz_N ai_T ai_B1 20000 70 yz_fr = true := by decide +kernel
theorem yl_71 {sb : ai_SB} : ∀ j, j < 71 → ct_ok yz_ctf yz_ctk sb j := ct_more yl_70 (ct_step yz_fr yz_hf yl_70 rfl (by decide +kernel) (by decide +kernel) ys_70)
set_option maxRecDepth 100000 in
/-- cX10_terms(0,) -/
theorem ys_71 : ai_shows yz_fnd yz_ctf yz_ctk yz_N ai_T ai_B1 20000 71 yz_fr = true := by decide +kernel
theorem yl_72 {sb : ai_SB} : ∀ j, j < 72 → ct_ok yz_ctf yz_ctk sb j := ct_more yl_71 (ct_step yz_fr yz_hf yl_71 rfl (by decide +kernel) (by decide +kernel) ys_71)
set_option maxRecDepth 100000 in
/-- cX10_twice(0,) -/
theorem ys_72 : ai_shows yz_fnd yz_ctf yz_ctk yz_N ai_T ai_B1 20000 72 yz_fr = true := by decide +kernel
theorem yl_73 {sb : ai_SB} : ∀ j, j < 73 → ct_ok yz_ctf yz_ctk sb j := ct_more yl_72 (ct_step yz_fr yz_hf yl_72 rfl (by decide +kernel) (by decide +kernel) ys_72)
set_option maxRecDepth 100000 in
/-- cX10_where(0,) -/
theorem ys_73 : ai_shows yz_fnd yz_ctf yz_ctk yz_N ai_T ai_B1 20000 73 yz_fr = true := by decide +kernel
theorem yl_74 {sb : ai_SB} : ∀ j, j < 74 → ct_ok yz_ctf yz_ctk sb j := ct_more yl_73 (ct_step yz_fr yz_hf yl_73 rfl (by decide +kernel) (by decide +kernel) ys_73)
set_option maxRecDepth 100000 in
/-- cX10_wish(0,) -/
theorem ys_74 : ai_shows yz_fnd yz_ctf yz_ctk yz_N ai_T ai_B1 20000 74 yz_fr = true := by decide +kernel
theorem yl_75 {sb : ai_SB} : ∀ j, j < 75 → ct_ok yz_ctf yz_ctk sb j := ct_more yl_74 (ct_step yz_fr yz_hf yl_74 rfl (by decide +kernel) (by decide +kernel) ys_74)

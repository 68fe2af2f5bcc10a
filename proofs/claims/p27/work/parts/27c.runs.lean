set_option maxRecDepth 100000 in
/-- cX10_of(0,) -/
theorem ns_58 : ai_shows ny_fnd ny_ctf ny_ctk ny_N ai_T ai_B1 20000 58 ny_fr = true := by decide +kernel
theorem nl_59 {sb : ai_SB} : ∀ j, j < 59 → ct_ok ny_ctf ny_ctk sb j := ct_more nl_58 (ct_step ny_fr ny_hf nl_58 rfl (by decide +kernel) (by decide +kernel) ns_58)
set_option maxRecDepth 100000 in
/-- cX10_off(0,) -/
theorem ns_59 : ai_shows ny_fnd ny_ctf ny_ctk ny_N ai_T ai_B1 20000 59 ny_fr = true := by decide +kernel
theorem nl_60 {sb : ai_SB} : ∀ j, j < 60 → ct_ok ny_ctf ny_ctk sb j := ct_more nl_59 (ct_step ny_fr ny_hf nl_59 rfl (by decide +kernel) (by decide +kernel) ns_59)
set_option maxRecDepth 100000 in
/-- cX10_on(0,) -/
theorem ns_60 : ai_shows ny_fnd ny_ctf ny_ctk ny_N ai_T ai_B1 20000 60 ny_fr = true := by decide +kernel
theorem nl_61 {sb : ai_SB} : ∀ j, j < 61 → ct_ok ny_ctf ny_ctk sb j := ct_more nl_60 (ct_step ny_fr ny_hf nl_60 rfl (by decide +kernel) (by decide +kernel) ns_60)
set_option maxRecDepth 100000 in
/-- cX10_paper(0,) -/
theorem ns_61 : ai_shows ny_fnd ny_ctf ny_ctk ny_N ai_T ai_B1 20000 61 ny_fr = true := by decide +kernel
theorem nl_62 {sb : ai_SB} : ∀ j, j < 62 → ct_ok ny_ctf ny_ctk sb j := ct_more nl_61 (ct_step ny_fr ny_hf nl_61 rfl (by decide +kernel) (by decide +kernel) ns_61)
set_option maxRecDepth 100000 in
/-- cX10_place(0,) -/
theorem ns_62 : ai_shows ny_fnd ny_ctf ny_ctk ny_N ai_T ai_B1 20000 62 ny_fr = true := by decide +kernel
theorem nl_63 {sb : ai_SB} : ∀ j, j < 63 → ct_ok ny_ctf ny_ctk sb j := ct_more nl_62 (ct_step ny_fr ny_hf nl_62 rfl (by decide +kernel) (by decide +kernel) ns_62)
set_option maxRecDepth 100000 in
/-- cX10_roll(0,) -/
theorem ns_63 : ai_shows ny_fnd ny_ctf ny_ctk ny_N ai_T ai_B1 20000 63 ny_fr = true := by decide +kernel
theorem nl_64 {sb : ai_SB} : ∀ j, j < 64 → ct_ok ny_ctf ny_ctk sb j := ct_more nl_63 (ct_step ny_fr ny_hf nl_63 rfl (by decide +kernel) (by decide +kernel) ns_63)
set_option maxRecDepth 100000 in
/-- cX10_rule(0,) -/
theorem ns_64 : ai_shows ny_fnd ny_ctf ny_ctk ny_N ai_T ai_B1 20000 64 ny_fr = true := by decide +kernel
theorem nl_65 {sb : ai_SB} : ∀ j, j < 65 → ct_ok ny_ctf ny_ctk sb j := ct_more nl_64 (ct_step ny_fr ny_hf nl_64 rfl (by decide +kernel) (by decide +kernel) ns_64)
set_option maxRecDepth 100000 in
/-- cX10_seal(0,) -/
theorem ns_65 : ai_shows ny_fnd ny_ctf ny_ctk ny_N ai_T ai_B1 20000 65 ny_fr = true := by decide +kernel
theorem nl_66 {sb : ai_SB} : ∀ j, j < 66 → ct_ok ny_ctf ny_ctk sb j := ct_more nl_65 (ct_step ny_fr ny_hf nl_65 rfl (by decide +kernel) (by decide +kernel) ns_65)
set_option maxRecDepth 100000 in
/-- cX10_seat(0,) -/
theorem ns_66 : ai_shows ny_fnd ny_ctf ny_ctk ny_N ai_T ai_B1 20000 66 ny_fr = true := by decide +kernel
theorem nl_67 {sb : ai_SB} : ∀ j, j < 67 → ct_ok ny_ctf ny_ctk sb j := ct_more nl_66 (ct_step ny_fr ny_hf nl_66 rfl (by decide +kernel) (by decide +kernel) ns_66)
set_option maxRecDepth 100000 in
/-- cX10_shares(0,) -/
theorem ns_67 : ai_shows ny_fnd ny_ctf ny_ctk ny_N ai_T ai_B1 20000 67 ny_fr = true := by decide +kernel
theorem nl_68 {sb : ai_SB} : ∀ j, j < 68 → ct_ok ny_ctf ny_ctk sb j := ct_more nl_67 (ct_step ny_fr ny_hf nl_67 rfl (by decide +kernel) (by decide +kernel) ns_67)
set_option maxRecDepth 100000 in
/-- cX10_span(0,) -/
theorem ns_68 : ai_shows ny_fnd ny_ctf ny_ctk ny_N ai_T ai_B1 20000 68 ny_fr = true := by decide +kernel
theorem nl_69 {sb : ai_SB} : ∀ j, j < 69 → ct_ok ny_ctf ny_ctk sb j := ct_more nl_68 (ct_step ny_fr ny_hf nl_68 rfl (by decide +kernel) (by decide +kernel) ns_68)
set_option maxRecDepth 100000 in
/-- cX10_status(0,) -/
theorem ns_69 : ai_shows ny_fnd ny_ctf ny_ctk ny_N ai_T ai_B1 20000 69 ny_fr = true := by decide +kernel
theorem nl_70 {sb : ai_SB} : ∀ j, j < 70 → ct_ok ny_ctf ny_ctk sb j := ct_more nl_69 (ct_step ny_fr ny_hf nl_69 rfl (by decide +kernel) (by decide +kernel) ns_69)
set_option maxRecDepth 100000 in
/-- cX10_tells(0,) -/
theorem ns_70 : ai_shows ny_fnd ny_ctf ny_ctk ny_N ai_T ai_B1 20000 70 ny_fr = true := by decide +kernel
theorem nl_71 {sb : ai_SB} : ∀ j, j < 71 → ct_ok ny_ctf ny_ctk sb j := ct_more nl_70 (ct_step ny_fr ny_hf nl_70 rfl (by decide +kernel) (by decide +kernel) ns_70)
set_option maxRecDepth 100000 in
/-- cX10_terms(0,) -/
theorem ns_71 : ai_shows ny_fnd ny_ctf ny_ctk ny_N ai_T ai_B1 20000 71 ny_fr = true := by decide +kernel
theorem nl_72 {sb : ai_SB} : ∀ j, j < 72 → ct_ok ny_ctf ny_ctk sb j := ct_more nl_71 (ct_step ny_fr ny_hf nl_71 rfl (by decide +kernel) (by decide +kernel) ns_71)
set_option maxRecDepth 100000 in
/-- cX10_twice(0,) -/
theorem ns_72 : ai_shows ny_fnd ny_ctf ny_ctk ny_N ai_T ai_B1 20000 72 ny_fr = true := by decide +kernel
theorem nl_73 {sb : ai_SB} : ∀ j, j < 73 → ct_ok ny_ctf ny_ctk sb j := ct_more nl_72 (ct_step ny_fr ny_hf nl_72 rfl (by decide +kernel) (by decide +kernel) ns_72)
set_option maxRecDepth 100000 in
/-- cX10_where(0,) -/
theorem ns_73 : ai_shows ny_fnd ny_ctf ny_ctk ny_N ai_T ai_B1 20000 73 ny_fr = true := by decide +kernel
theorem nl_74 {sb : ai_SB} : ∀ j, j < 74 → ct_ok ny_ctf ny_ctk sb j := ct_more nl_73 (ct_step ny_fr ny_hf nl_73 rfl (by decide +kernel) (by decide +kernel) ns_73)
set_option maxRecDepth 100000 in
/-- cX10_wish(0,) -/
theorem ns_74 : ai_shows ny_fnd ny_ctf ny_ctk ny_N ai_T ai_B1 20000 74 ny_fr = true := by decide +kernel
theorem nl_75 {sb : ai_SB} : ∀ j, j < 75 → ct_ok ny_ctf ny_ctk sb j := ct_more nl_74 (ct_step ny_fr ny_hf nl_74 rfl (by decide +kernel) (by decide +kernel) ns_74)

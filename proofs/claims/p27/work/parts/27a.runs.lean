set_option maxRecDepth 100000 in
/-- cX10_addBooth(0,) -/
theorem ns_7 : ai_shows ny_fnd ny_ctf ny_ctk ny_N ai_T ai_B1 20000 7 ny_fr = true := by decide +kernel
theorem nl_8 {sb : ai_SB} : ∀ j, j < 8 → ct_ok ny_ctf ny_ctk sb j := ct_more nl_7 (ct_step ny_fr ny_hf nl_7 rfl (by decide +kernel) (by decide +kernel) ns_7)
set_option maxRecDepth 100000 in
/-- cX10_doesCount(0,) -/
theorem ns_8 : ai_shows ny_fnd ny_ctf ny_ctk ny_N ai_T ai_B1 20000 8 ny_fr = true := by decide +kernel
theorem nl_9 {sb : ai_SB} : ∀ j, j < 9 → ct_ok ny_ctf ny_ctk sb j := ct_more nl_8 (ct_step ny_fr ny_hf nl_8 rfl (by decide +kernel) (by decide +kernel) ns_8)
set_option maxRecDepth 100000 in
/-- cX10_brokenOf(0,) -/
theorem ns_9 : ai_shows ny_fnd ny_ctf ny_ctk ny_N ai_T ai_B1 20000 9 ny_fr = true := by decide +kernel
theorem nl_10 {sb : ai_SB} : ∀ j, j < 10 → ct_ok ny_ctf ny_ctk sb j := ct_more nl_9 (ct_step ny_fr ny_hf nl_9 rfl (by decide +kernel) (by decide +kernel) ns_9)
set_option maxRecDepth 100000 in
/-- cX10_paperOf(0,) -/
theorem ns_10 : ai_shows ny_fnd ny_ctf ny_ctk ny_N ai_T ai_B1 20000 10 ny_fr = true := by decide +kernel
theorem nl_11 {sb : ai_SB} : ∀ j, j < 11 → ct_ok ny_ctf ny_ctk sb j := ct_more nl_10 (ct_step ny_fr ny_hf nl_10 rfl (by decide +kernel) (by decide +kernel) ns_10)
set_option maxRecDepth 100000 in
/-- cX10_putOf(0,) -/
theorem ns_11 : ai_shows ny_fnd ny_ctf ny_ctk ny_N ai_T ai_B1 20000 11 ny_fr = true := by decide +kernel
theorem nl_12 {sb : ai_SB} : ∀ j, j < 12 → ct_ok ny_ctf ny_ctk sb j := ct_more nl_11 (ct_step ny_fr ny_hf nl_11 rfl (by decide +kernel) (by decide +kernel) ns_11)
set_option maxRecDepth 100000 in
/-- cX10_setNothing(0,) -/
theorem ns_12 : ai_shows ny_fnd ny_ctf ny_ctk ny_N ai_T ai_B1 20000 12 ny_fr = true := by decide +kernel
theorem nl_13 {sb : ai_SB} : ∀ j, j < 13 → ct_ok ny_ctf ny_ctk sb j := ct_more nl_12 (ct_step ny_fr ny_hf nl_12 rfl (by decide +kernel) (by decide +kernel) ns_12)
set_option maxRecDepth 100000 in
/-- cX10_setPlace(0,) -/
theorem ns_13 : ai_shows ny_fnd ny_ctf ny_ctk ny_N ai_T ai_B1 20000 13 ny_fr = true := by decide +kernel
theorem nl_14 {sb : ai_SB} : ∀ j, j < 14 → ct_ok ny_ctf ny_ctk sb j := ct_more nl_13 (ct_step ny_fr ny_hf nl_13 rfl (by decide +kernel) (by decide +kernel) ns_13)
set_option maxRecDepth 100000 in
/-- cX10_setBooth(0,) -/
theorem ns_14 : ai_shows ny_fnd ny_ctf ny_ctk ny_N ai_T ai_B1 20000 14 ny_fr = true := by decide +kernel
theorem nl_15 {sb : ai_SB} : ∀ j, j < 15 → ct_ok ny_ctf ny_ctk sb j := ct_more nl_14 (ct_step ny_fr ny_hf nl_14 rfl (by decide +kernel) (by decide +kernel) ns_14)
set_option maxRecDepth 100000 in
/-- cX10_findValid(0,) -/
theorem ns_15 : ai_shows ny_fnd ny_ctf ny_ctk ny_N ai_T ai_B1 20000 15 ny_fr = true := by decide +kernel
theorem nl_16 {sb : ai_SB} : ∀ j, j < 16 → ct_ok ny_ctf ny_ctk sb j := ct_more nl_15 (ct_step ny_fr ny_hf nl_15 rfl (by decide +kernel) (by decide +kernel) ns_15)
set_option maxRecDepth 100000 in
/-- cX10_addSeat(0,) -/
theorem ns_16 : ai_shows ny_fnd ny_ctf ny_ctk ny_N ai_T ai_B1 20000 16 ny_fr = true := by decide +kernel
theorem nl_17 {sb : ai_SB} : ∀ j, j < 17 → ct_ok ny_ctf ny_ctk sb j := ct_more nl_16 (ct_step ny_fr ny_hf nl_16 rfl (by decide +kernel) (by decide +kernel) ns_16)
set_option maxRecDepth 100000 in
/-- cX10_aheadOf(0,) -/
theorem ns_17 : ai_shows ny_fnd ny_ctf ny_ctk ny_N ai_T ai_B1 20000 17 ny_fr = true := by decide +kernel
theorem nl_18 {sb : ai_SB} : ∀ j, j < 18 → ct_ok ny_ctf ny_ctk sb j := ct_more nl_17 (ct_step ny_fr ny_hf nl_17 rfl (by decide +kernel) (by decide +kernel) ns_17)
set_option maxRecDepth 100000 in
/-- cX10_all(0,) -/
theorem ns_18 : ai_shows ny_fnd ny_ctf ny_ctk ny_N ai_T ai_B1 20000 18 ny_fr = true := by decide +kernel
theorem nl_19 {sb : ai_SB} : ∀ j, j < 19 → ct_ok ny_ctf ny_ctk sb j := ct_more nl_18 (ct_step ny_fr ny_hf nl_18 rfl (by decide +kernel) (by decide +kernel) ns_18)
set_option maxRecDepth 100000 in
/-- cX10_alter(0,) -/
theorem ns_19 : ai_shows ny_fnd ny_ctf ny_ctk ny_N ai_T ai_B1 20000 19 ny_fr = true := by decide +kernel
theorem nl_20 {sb : ai_SB} : ∀ j, j < 20 → ct_ok ny_ctf ny_ctk sb j := ct_more nl_19 (ct_step ny_fr ny_hf nl_19 rfl (by decide +kernel) (by decide +kernel) ns_19)
set_option maxRecDepth 100000 in
/-- cX10_apart(0,) -/
theorem ns_20 : ai_shows ny_fnd ny_ctf ny_ctk ny_N ai_T ai_B1 20000 20 ny_fr = true := by decide +kernel
theorem nl_21 {sb : ai_SB} : ∀ j, j < 21 → ct_ok ny_ctf ny_ctk sb j := ct_more nl_20 (ct_step ny_fr ny_hf nl_20 rfl (by decide +kernel) (by decide +kernel) ns_20)
set_option maxRecDepth 100000 in
/-- cX10_areLetters() -/
theorem ns_21 : ai_shows ny_fnd ny_ctf ny_ctk ny_N ai_T ai_B1 20000 21 ny_fr = true := by decide +kernel
theorem nl_22 {sb : ai_SB} : ∀ j, j < 22 → ct_ok ny_ctf ny_ctk sb j := ct_more nl_21 (ct_step ny_fr ny_hf nl_21 rfl (by decide +kernel) (by decide +kernel) ns_21)
set_option maxRecDepth 100000 in
/-- cX10_areThere(0,) -/
theorem ns_22 : ai_shows ny_fnd ny_ctf ny_ctk ny_N ai_T ai_B1 20000 22 ny_fr = true := by decide +kernel
theorem nl_23 {sb : ai_SB} : ∀ j, j < 23 → ct_ok ny_ctf ny_ctk sb j := ct_more nl_22 (ct_step ny_fr ny_hf nl_22 rfl (by decide +kernel) (by decide +kernel) ns_22)
set_option maxRecDepth 100000 in
/-- cX10_booth(0,) -/
theorem ns_23 : ai_shows ny_fnd ny_ctf ny_ctk ny_N ai_T ai_B1 20000 23 ny_fr = true := by decide +kernel
theorem nl_24 {sb : ai_SB} : ∀ j, j < 24 → ct_ok ny_ctf ny_ctk sb j := ct_more nl_23 (ct_step ny_fr ny_hf nl_23 rfl (by decide +kernel) (by decide +kernel) ns_23)
set_option maxRecDepth 100000 in
/-- cX10_ones() -/
theorem ns_24 : ai_shows ny_fnd ny_ctf ny_ctk ny_N ai_T ai_B1 20000 24 ny_fr = true := by decide +kernel
theorem nl_25 {sb : ai_SB} : ∀ j, j < 25 → ct_ok ny_ctf ny_ctk sb j := ct_more nl_24 (ct_step ny_fr ny_hf nl_24 rfl (by decide +kernel) (by decide +kernel) ns_24)
set_option maxRecDepth 100000 in
/-- cX10_hasMoved(0,) -/
theorem ns_25 : ai_shows ny_fnd ny_ctf ny_ctk ny_N ai_T ai_B1 20000 25 ny_fr = true := by decide +kernel
theorem nl_26 {sb : ai_SB} : ∀ j, j < 26 → ct_ok ny_ctf ny_ctk sb j := ct_more nl_25 (ct_step ny_fr ny_hf nl_25 rfl (by decide +kernel) (by decide +kernel) ns_25)
set_option maxRecDepth 100000 in
/-- cX10_setName(0,) -/
theorem ns_26 : ai_shows ny_fnd ny_ctf ny_ctk ny_N ai_T ai_B1 20000 26 ny_fr = true := by decide +kernel
theorem nl_27 {sb : ai_SB} : ∀ j, j < 27 → ct_ok ny_ctf ny_ctk sb j := ct_more nl_26 (ct_step ny_fr ny_hf nl_26 rfl (by decide +kernel) (by decide +kernel) ns_26)
set_option maxRecDepth 100000 in
/-- cX10_isOnNow(0,) -/
theorem ns_27 : ai_shows ny_fnd ny_ctf ny_ctk ny_N ai_T ai_B1 20000 27 ny_fr = true := by decide +kernel
theorem nl_28 {sb : ai_SB} : ∀ j, j < 28 → ct_ok ny_ctf ny_ctk sb j := ct_more nl_27 (ct_step ny_fr ny_hf nl_27 rfl (by decide +kernel) (by decide +kernel) ns_27)
set_option maxRecDepth 100000 in
/-- cX10_knowBy(0,) -/
theorem ns_28 : ai_shows ny_fnd ny_ctf ny_ctk ny_N ai_T ai_B1 20000 28 ny_fr = true := by decide +kernel
theorem nl_29 {sb : ai_SB} : ∀ j, j < 29 → ct_ok ny_ctf ny_ctk sb j := ct_more nl_28 (ct_step ny_fr ny_hf nl_28 rfl (by decide +kernel) (by decide +kernel) ns_28)
set_option maxRecDepth 100000 in
/-- cX10_setRules(0,) -/
theorem ns_29 : ai_shows ny_fnd ny_ctf ny_ctk ny_N ai_T ai_B1 20000 29 ny_fr = true := by decide +kernel
theorem nl_30 {sb : ai_SB} : ∀ j, j < 30 → ct_ok ny_ctf ny_ctk sb j := ct_more nl_29 (ct_step ny_fr ny_hf nl_29 rfl (by decide +kernel) (by decide +kernel) ns_29)
set_option maxRecDepth 100000 in
/-- cX10_booths(0,) -/
theorem ns_30 : ai_shows ny_fnd ny_ctf ny_ctk ny_N ai_T ai_B1 20000 30 ny_fr = true := by decide +kernel
theorem nl_31 {sb : ai_SB} : ∀ j, j < 31 → ct_ok ny_ctf ny_ctk sb j := ct_more nl_30 (ct_step ny_fr ny_hf nl_30 rfl (by decide +kernel) (by decide +kernel) ns_30)
set_option maxRecDepth 100000 in
/-- cX10_box(0,) -/
theorem ns_31 : ai_shows ny_fnd ny_ctf ny_ctk ny_N ai_T ai_B1 20000 31 ny_fr = true := by decide +kernel
theorem nl_32 {sb : ai_SB} : ∀ j, j < 32 → ct_ok ny_ctf ny_ctk sb j := ct_more nl_31 (ct_step ny_fr ny_hf nl_31 rfl (by decide +kernel) (by decide +kernel) ns_31)
set_option maxRecDepth 100000 in
/-- cX10_broken(0,) -/
theorem ns_32 : ai_shows ny_fnd ny_ctf ny_ctk ny_N ai_T ai_B1 20000 32 ny_fr = true := by decide +kernel
theorem nl_33 {sb : ai_SB} : ∀ j, j < 33 → ct_ok ny_ctf ny_ctk sb j := ct_more nl_32 (ct_step ny_fr ny_hf nl_32 rfl (by decide +kernel) (by decide +kernel) ns_32)
set_option maxRecDepth 100000 in
/-- cX10_choose() -/
theorem ns_33 : ai_shows ny_fnd ny_ctf ny_ctk ny_N ai_T ai_B1 20000 33 ny_fr = true := by decide +kernel
theorem nl_34 {sb : ai_SB} : ∀ j, j < 34 → ct_ok ny_ctf ny_ctk sb j := ct_more nl_33 (ct_step ny_fr ny_hf nl_33 rfl (by decide +kernel) (by decide +kernel) ns_33)
set_option maxRecDepth 100000 in
/-- cX10_clear(0,) -/
theorem ns_34 : ai_shows ny_fnd ny_ctf ny_ctk ny_N ai_T ai_B1 20000 34 ny_fr = true := by decide +kernel
theorem nl_35 {sb : ai_SB} : ∀ j, j < 35 → ct_ok ny_ctf ny_ctk sb j := ct_more nl_34 (ct_step ny_fr ny_hf nl_34 rfl (by decide +kernel) (by decide +kernel) ns_34)
set_option maxRecDepth 100000 in
/-- cX10_count(0,) -/
theorem ns_35 : ai_shows ny_fnd ny_ctf ny_ctk ny_N ai_T ai_B1 20000 35 ny_fr = true := by decide +kernel
theorem nl_36 {sb : ai_SB} : ∀ j, j < 36 → ct_ok ny_ctf ny_ctk sb j := ct_more nl_35 (ct_step ny_fr ny_hf nl_35 rfl (by decide +kernel) (by decide +kernel) ns_35)

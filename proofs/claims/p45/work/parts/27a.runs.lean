set_option maxRecDepth 100000 in
/-- cX10_addBooth(0,) -/
theorem ys_7 : ai_shows yz_fnd yz_ctf yz_ctk yz_N ai_T ai_B1 20000 7 yz_fr = true := by decide +kernel
theorem yl_8 {sb : ai_SB} : ∀ j, j < 8 → ct_ok yz_ctf yz_ctk sb j := ct_more yl_7 (ct_step yz_fr yz_hf yl_7 rfl (by decide +kernel) (by decide +kernel) ys_7)
set_option maxRecDepth 100000 in
/-- cX10_doesCount(0,) -/
theorem ys_8 : ai_shows yz_fnd yz_ctf yz_ctk yz_N ai_T ai_B1 20000 8 yz_fr = true := by decide +kernel
theorem yl_9 {sb : ai_SB} : ∀ j, j < 9 → ct_ok yz_ctf yz_ctk sb j := ct_more yl_8 (ct_step yz_fr yz_hf yl_8 rfl (by decide +kernel) (by decide +kernel) ys_8)
set_option maxRecDepth 100000 in
/-- cX10_brokenOf(0,) -/
theorem ys_9 : ai_shows yz_fnd yz_ctf yz_ctk yz_N ai_T ai_B1 20000 9 yz_fr = true := by decide +kernel
theorem yl_10 {sb : ai_SB} : ∀ j, j < 10 → ct_ok yz_ctf yz_ctk sb j := ct_more yl_9 (ct_step yz_fr yz_hf yl_9 rfl (by decide +kernel) (by decide +kernel) ys_9)
set_option maxRecDepth 100000 in
/-- cX10_paperOf(0,) -/
theorem ys_10 : ai_shows yz_fnd yz_ctf yz_ctk yz_N ai_T ai_B1 20000 10 yz_fr = true := by decide +kernel
theorem yl_11 {sb : ai_SB} : ∀ j, j < 11 → ct_ok yz_ctf yz_ctk sb j := ct_more yl_10 (ct_step yz_fr yz_hf yl_10 rfl (by decide +kernel) (by decide +kernel) ys_10)
set_option maxRecDepth 100000 in
/-- cX10_putOf(0,) -/
theorem ys_11 : ai_shows yz_fnd yz_ctf yz_ctk yz_N ai_T ai_B1 20000 11 yz_fr = true := by decide +kernel
theorem yl_12 {sb : ai_SB} : ∀ j, j < 12 → ct_ok yz_ctf yz_ctk sb j := ct_more yl_11 (ct_step yz_fr yz_hf yl_11 rfl (by decide +kernel) (by decide +kernel) ys_11)
set_option maxRecDepth 100000 in
/-- cX10_setNothing(0,) -/
theorem ys_12 : ai_shows yz_fnd yz_ctf yz_ctk yz_N ai_T ai_B1 20000 12 yz_fr = true := by decide +kernel
theorem yl_13 {sb : ai_SB} : ∀ j, j < 13 → ct_ok yz_ctf yz_ctk sb j := ct_more yl_12 (ct_step yz_fr yz_hf yl_12 rfl (by decide +kernel) (by decide +kernel) ys_12)
set_option maxRecDepth 100000 in
/-- cX10_setPlace(0,) -/
theorem ys_13 : ai_shows yz_fnd yz_ctf yz_ctk yz_N ai_T ai_B1 20000 13 yz_fr = true := by decide +kernel
theorem yl_14 {sb : ai_SB} : ∀ j, j < 14 → ct_ok yz_ctf yz_ctk sb j := ct_more yl_13 (ct_step yz_fr yz_hf yl_13 rfl (by decide +kernel) (by decide +kernel) ys_13)
set_option maxRecDepth 100000 in
/-- cX10_setBooth(0,) -/
theorem ys_14 : ai_shows yz_fnd yz_ctf yz_ctk yz_N ai_T ai_B1 20000 14 yz_fr = true := by decide +kernel
theorem yl_15 {sb : ai_SB} : ∀ j, j < 15 → ct_ok yz_ctf yz_ctk sb j := ct_more yl_14 (ct_step yz_fr yz_hf yl_14 rfl (by decide +kernel) (by decide +kernel) ys_14)
set_option maxRecDepth 100000 in
/-- cX10_findValid(0,) -/
theorem ys_15 : ai_shows yz_fnd yz_ctf yz_ctk yz_N ai_T ai_B1 20000 15 yz_fr = true := by decide +kernel
theorem yl_16 {sb : ai_SB} : ∀ j, j < 16 → ct_ok yz_ctf yz_ctk sb j := ct_more yl_15 (ct_step yz_fr yz_hf yl_15 rfl (by decide +kernel) (by decide +kernel) ys_15)
set_option maxRecDepth 100000 in
/-- cX10_addSeat(0,) -/
theorem ys_16 : ai_shows yz_fnd yz_ctf yz_ctk yz_N ai_T ai_B1 20000 16 yz_fr = true := by decide +kernel
theorem yl_17 {sb : ai_SB} : ∀ j, j < 17 → ct_ok yz_ctf yz_ctk sb j := ct_more yl_16 (ct_step yz_fr yz_hf yl_16 rfl (by decide +kernel) (by decide +kernel) ys_16)
set_option maxRecDepth 100000 in
/-- cX10_aheadOf(0,) -/
theorem ys_17 : ai_shows yz_fnd yz_ctf yz_ctk yz_N ai_T ai_B1 20000 17 yz_fr = true := by decide +kernel
theorem yl_18 {sb : ai_SB} : ∀ j, j < 18 → ct_ok yz_ctf yz_ctk sb j := ct_more yl_17 (ct_step yz_fr yz_hf yl_17 rfl (by decide +kernel) (by decide +kernel) ys_17)
set_option maxRecDepth 100000 in
/-- cX10_all(0,) -/
theorem ys_18 : ai_shows yz_fnd yz_ctf yz_ctk yz_N ai_T ai_B1 20000 18 yz_fr = true := by decide +kernel
theorem yl_19 {sb : ai_SB} : ∀ j, j < 19 → ct_ok yz_ctf yz_ctk sb j := ct_more yl_18 (ct_step yz_fr yz_hf yl_18 rfl (by decide +kernel) (by decide +kernel) ys_18)
set_option maxRecDepth 100000 in
/-- cX10_alter(0,) -/
theorem ys_19 : ai_shows yz_fnd yz_ctf yz_ctk yz_N ai_T ai_B1 20000 19 yz_fr = true := by decide +kernel
theorem yl_20 {sb : ai_SB} : ∀ j, j < 20 → ct_ok yz_ctf yz_ctk sb j := ct_more yl_19 (ct_step yz_fr yz_hf yl_19 rfl (by decide +kernel) (by decide +kernel) ys_19)
set_option maxRecDepth 100000 in
/-- cX10_apart(0,) -/
theorem ys_20 : ai_shows yz_fnd yz_ctf yz_ctk yz_N ai_T ai_B1 20000 20 yz_fr = true := by decide +kernel
theorem yl_21 {sb : ai_SB} : ∀ j, j < 21 → ct_ok yz_ctf yz_ctk sb j := ct_more yl_20 (ct_step yz_fr yz_hf yl_20 rfl (by decide +kernel) (by decide +kernel) ys_20)
set_option maxRecDepth 100000 in
/-- cX10_areLetters() -/
theorem ys_21 : ai_shows yz_fnd yz_ctf yz_ctk yz_N ai_T ai_B1 20000 21 yz_fr = true := by decide +kernel
theorem yl_22 {sb : ai_SB} : ∀ j, j < 22 → ct_ok yz_ctf yz_ctk sb j := ct_more yl_21 (ct_step yz_fr yz_hf yl_21 rfl (by decide +kernel) (by decide +kernel) ys_21)
set_option maxRecDepth 100000 in
/-- cX10_areThere(0,) -/
theorem ys_22 : ai_shows yz_fnd yz_ctf yz_ctk yz_N ai_T ai_B1 20000 22 yz_fr = true := by decide +kernel
theorem yl_23 {sb : ai_SB} : ∀ j, j < 23 → ct_ok yz_ctf yz_ctk sb j := ct_more yl_22 (ct_step yz_fr yz_hf yl_22 rfl (by decide +kernel) (by decide +kernel) ys_22)
set_option maxRecDepth 100000 in
/-- cX10_booth(0,) -/
theorem ys_23 : ai_shows yz_fnd yz_ctf yz_ctk yz_N ai_T ai_B1 20000 23 yz_fr = true := by decide +kernel
theorem yl_24 {sb : ai_SB} : ∀ j, j < 24 → ct_ok yz_ctf yz_ctk sb j := ct_more yl_23 (ct_step yz_fr yz_hf yl_23 rfl (by decide +kernel) (by decide +kernel) ys_23)
set_option maxRecDepth 100000 in
/-- cX10_ones() -/
theorem ys_24 : ai_shows yz_fnd yz_ctf yz_ctk yz_N ai_T ai_B1 20000 24 yz_fr = true := by decide +kernel
theorem yl_25 {sb : ai_SB} : ∀ j, j < 25 → ct_ok yz_ctf yz_ctk sb j := ct_more yl_24 (ct_step yz_fr yz_hf yl_24 rfl (by decide +kernel) (by decide +kernel) ys_24)
set_option maxRecDepth 100000 in
/-- cX10_hasMoved(0,) -/
theorem ys_25 : ai_shows yz_fnd yz_ctf yz_ctk yz_N ai_T ai_B1 20000 25 yz_fr = true := by decide +kernel
theorem yl_26 {sb : ai_SB} : ∀ j, j < 26 → ct_ok yz_ctf yz_ctk sb j := ct_more yl_25 (ct_step yz_fr yz_hf yl_25 rfl (by decide +kernel) (by decide +kernel) ys_25)
set_option maxRecDepth 100000 in
/-- cX10_setName(0,) -/
theorem ys_26 : ai_shows yz_fnd yz_ctf yz_ctk yz_N ai_T ai_B1 20000 26 yz_fr = true := by decide +kernel
theorem yl_27 {sb : ai_SB} : ∀ j, j < 27 → ct_ok yz_ctf yz_ctk sb j := ct_more yl_26 (ct_step yz_fr yz_hf yl_26 rfl (by decide +kernel) (by decide +kernel) ys_26)
set_option maxRecDepth 100000 in
/-- cX10_isOnNow(0,) -/
theorem ys_27 : ai_shows yz_fnd yz_ctf yz_ctk yz_N ai_T ai_B1 20000 27 yz_fr = true := by decide +kernel
theorem yl_28 {sb : ai_SB} : ∀ j, j < 28 → ct_ok yz_ctf yz_ctk sb j := ct_more yl_27 (ct_step yz_fr yz_hf yl_27 rfl (by decide +kernel) (by decide +kernel) ys_27)
set_option maxRecDepth 100000 in
/-- cX10_knowBy(0,) -/
theorem ys_28 : ai_shows yz_fnd yz_ctf yz_ctk yz_N ai_T ai_B1 20000 28 yz_fr = true := by decide +kernel
theorem yl_29 {sb : ai_SB} : ∀ j, j < 29 → ct_ok yz_ctf yz_ctk sb j := ct_more yl_28 (ct_step yz_fr yz_hf yl_28 rfl (by decide +kernel) (by decide +kernel) ys_28)
set_option maxRecDepth 100000 in
/-- cX10_setRules(0,) -/
theorem ys_29 : ai_shows yz_fnd yz_ctf yz_ctk yz_N ai_T ai_B1 20000 29 yz_fr = true := by decide +kernel
theorem yl_30 {sb : ai_SB} : ∀ j, j < 30 → ct_ok yz_ctf yz_ctk sb j := ct_more yl_29 (ct_step yz_fr yz_hf yl_29 rfl (by decide +kernel) (by decide +kernel) ys_29)
set_option maxRecDepth 100000 in
/-- cX10_booths(0,) -/
theorem ys_30 : ai_shows yz_fnd yz_ctf yz_ctk yz_N ai_T ai_B1 20000 30 yz_fr = true := by decide +kernel
theorem yl_31 {sb : ai_SB} : ∀ j, j < 31 → ct_ok yz_ctf yz_ctk sb j := ct_more yl_30 (ct_step yz_fr yz_hf yl_30 rfl (by decide +kernel) (by decide +kernel) ys_30)
set_option maxRecDepth 100000 in
/-- cX10_box(0,) -/
theorem ys_31 : ai_shows yz_fnd yz_ctf yz_ctk yz_N ai_T ai_B1 20000 31 yz_fr = true := by decide +kernel
theorem yl_32 {sb : ai_SB} : ∀ j, j < 32 → ct_ok yz_ctf yz_ctk sb j := ct_more yl_31 (ct_step yz_fr yz_hf yl_31 rfl (by decide +kernel) (by decide +kernel) ys_31)
set_option maxRecDepth 100000 in
/-- cX10_broken(0,) -/
theorem ys_32 : ai_shows yz_fnd yz_ctf yz_ctk yz_N ai_T ai_B1 20000 32 yz_fr = true := by decide +kernel
theorem yl_33 {sb : ai_SB} : ∀ j, j < 33 → ct_ok yz_ctf yz_ctk sb j := ct_more yl_32 (ct_step yz_fr yz_hf yl_32 rfl (by decide +kernel) (by decide +kernel) ys_32)
set_option maxRecDepth 100000 in
/-- cX10_choose() -/
theorem ys_33 : ai_shows yz_fnd yz_ctf yz_ctk yz_N ai_T ai_B1 20000 33 yz_fr = true := by decide +kernel
theorem yl_34 {sb : ai_SB} : ∀ j, j < 34 → ct_ok yz_ctf yz_ctk sb j := ct_more yl_33 (ct_step yz_fr yz_hf yl_33 rfl (by decide +kernel) (by decide +kernel) ys_33)
set_option maxRecDepth 100000 in
/-- cX10_clear(0,) -/
theorem ys_34 : ai_shows yz_fnd yz_ctf yz_ctk yz_N ai_T ai_B1 20000 34 yz_fr = true := by decide +kernel
theorem yl_35 {sb : ai_SB} : ∀ j, j < 35 → ct_ok yz_ctf yz_ctk sb j := ct_more yl_34 (ct_step yz_fr yz_hf yl_34 rfl (by decide +kernel) (by decide +kernel) ys_34)
set_option maxRecDepth 100000 in
/-- cX10_count(0,) -/
theorem ys_35 : ai_shows yz_fnd yz_ctf yz_ctk yz_N ai_T ai_B1 20000 35 yz_fr = true := by decide +kernel
theorem yl_36 {sb : ai_SB} : ∀ j, j < 36 → ct_ok yz_ctf yz_ctk sb j := ct_more yl_35 (ct_step yz_fr yz_hf yl_35 rfl (by decide +kernel) (by decide +kernel) ys_35)

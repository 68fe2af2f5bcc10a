set_option maxRecDepth 100000 in
/-- cX10_mayBe() -/
theorem ys_36 : ai_shows yz_fnd yz_ctf yz_ctk yz_N ai_T ai_B1 20000 36 yz_fr = true := by decide +kernel
theorem yl_37 {sb : ai_SB} : ∀ j, j < 37 → ct_ok yz_ctf yz_ctk sb j := ct_more yl_36 (ct_step yz_fr yz_hf yl_36 rfl (by decide +kernel) (by decide +kernel) ys_36)
set_option maxRecDepth 100000 in
/-- cX10_doors(0,) -/
theorem ys_37 : ai_shows yz_fnd yz_ctf yz_ctk yz_N ai_T ai_B1 20000 37 yz_fr = true := by decide +kernel
theorem yl_38 {sb : ai_SB} : ∀ j, j < 38 → ct_ok yz_ctf yz_ctk sb j := ct_more yl_37 (ct_step yz_fr yz_hf yl_37 rfl (by decide +kernel) (by decide +kernel) ys_37)
set_option maxRecDepth 100000 in
/-- cX10_end(0,) -/
theorem ys_38 : ai_shows yz_fnd yz_ctf yz_ctk yz_N ai_T ai_B1 20000 38 yz_fr = true := by decide +kernel
theorem yl_39 {sb : ai_SB} : ∀ j, j < 39 → ct_ok yz_ctf yz_ctk sb j := ct_more yl_38 (ct_step yz_fr yz_hf yl_38 rfl (by decide +kernel) (by decide +kernel) ys_38)
set_option maxRecDepth 100000 in
/-- cX10_fault(0,) -/
theorem ys_39 : ai_shows yz_fnd yz_ctf yz_ctk yz_N ai_T ai_B1 20000 39 yz_fr = true := by decide +kernel
theorem yl_40 {sb : ai_SB} : ∀ j, j < 40 → ct_ok yz_ctf yz_ctk sb j := ct_more yl_39 (ct_step yz_fr yz_hf yl_39 rfl (by decide +kernel) (by decide +kernel) ys_39)
set_option maxRecDepth 100000 in
/-- cX10_feed(0,) -/
theorem ys_40 : ai_shows yz_fnd yz_ctf yz_ctk yz_N ai_T ai_B1 20000 40 yz_fr = true := by decide +kernel
theorem yl_41 {sb : ai_SB} : ∀ j, j < 41 → ct_ok yz_ctf yz_ctk sb j := ct_more yl_40 (ct_step yz_fr yz_hf yl_40 rfl (by decide +kernel) (by decide +kernel) ys_40)
set_option maxRecDepth 100000 in
/-- cX10_findWinner(0,) -/
theorem ys_41 : ai_shows yz_fnd yz_ctf yz_ctk yz_N ai_T ai_B1 20000 41 yz_fr = true := by decide +kernel
theorem yl_42 {sb : ai_SB} : ∀ j, j < 42 → ct_ok yz_ctf yz_ctk sb j := ct_more yl_41 (ct_step yz_fr yz_hf yl_41 rfl (by decide +kernel) (by decide +kernel) ys_41)
set_option maxRecDepth 100000 in
/-- cX10_force(0,) -/
theorem ys_42 : ai_shows yz_fnd yz_ctf yz_ctk yz_N ai_T ai_B1 20000 42 yz_fr = true := by decide +kernel
theorem yl_43 {sb : ai_SB} : ∀ j, j < 43 → ct_ok yz_ctf yz_ctk sb j := ct_more yl_42 (ct_step yz_fr yz_hf yl_42 rfl (by decide +kernel) (by decide +kernel) ys_42)
set_option maxRecDepth 100000 in
/-- cX10_found(0,) -/
theorem ys_43 : ai_shows yz_fnd yz_ctf yz_ctk yz_N ai_T ai_B1 20000 43 yz_fr = true := by decide +kernel
theorem yl_44 {sb : ai_SB} : ∀ j, j < 44 → ct_ok yz_ctf yz_ctk sb j := ct_more yl_43 (ct_step yz_fr yz_hf yl_43 rfl (by decide +kernel) (by decide +kernel) ys_43)
set_option maxRecDepth 100000 in
/-- cX10_hand(0,) -/
theorem ys_44 : ai_shows yz_fnd yz_ctf yz_ctk yz_N ai_T ai_B1 20000 44 yz_fr = true := by decide +kernel
theorem yl_45 {sb : ai_SB} : ∀ j, j < 45 → ct_ok yz_ctf yz_ctk sb j := ct_more yl_44 (ct_step yz_fr yz_hf yl_44 rfl (by decide +kernel) (by decide +kernel) ys_44)
set_option maxRecDepth 100000 in
/-- cX10_hangs(0,) -/
theorem ys_45 : ai_shows yz_fnd yz_ctf yz_ctk yz_N ai_T ai_B1 20000 45 yz_fr = true := by decide +kernel
theorem yl_46 {sb : ai_SB} : ∀ j, j < 46 → ct_ok yz_ctf yz_ctk sb j := ct_more yl_45 (ct_step yz_fr yz_hf yl_45 rfl (by decide +kernel) (by decide +kernel) ys_45)
set_option maxRecDepth 100000 in
/-- cX10_held(0,) -/
theorem ys_46 : ai_shows yz_fnd yz_ctf yz_ctk yz_N ai_T ai_B1 20000 46 yz_fr = true := by decide +kernel
theorem yl_47 {sb : ai_SB} : ∀ j, j < 47 → ct_ok yz_ctf yz_ctk sb j := ct_more yl_46 (ct_step yz_fr yz_hf yl_46 rfl (by decide +kernel) (by decide +kernel) ys_46)
set_option maxRecDepth 100000 in
/-- cX10_joinBooths(0,) -/
theorem ys_47 : ai_shows yz_fnd yz_ctf yz_ctk yz_N ai_T ai_B1 20000 47 yz_fr = true := by decide +kernel
theorem yl_48 {sb : ai_SB} : ∀ j, j < 48 → ct_ok yz_ctf yz_ctk sb j := ct_more yl_47 (ct_step yz_fr yz_hf yl_47 rfl (by decide +kernel) (by decide +kernel) ys_47)
set_option maxRecDepth 100000 in
/-- cX10_hidden(0,) -/
theorem ys_48 : ai_shows yz_fnd yz_ctf yz_ctk yz_N ai_T ai_B1 20000 48 yz_fr = true := by decide +kernel
theorem yl_49 {sb : ai_SB} : ∀ j, j < 49 → ct_ok yz_ctf yz_ctk sb j := ct_more yl_48 (ct_step yz_fr yz_hf yl_48 rfl (by decide +kernel) (by decide +kernel) ys_48)
set_option maxRecDepth 100000 in
/-- cX10_isBarred(0,) -/
theorem ys_49 : ai_shows yz_fnd yz_ctf yz_ctk yz_N ai_T ai_B1 20000 49 yz_fr = true := by decide +kernel
theorem yl_50 {sb : ai_SB} : ∀ j, j < 50 → ct_ok yz_ctf yz_ctk sb j := ct_more yl_49 (ct_step yz_fr yz_hf yl_49 rfl (by decide +kernel) (by decide +kernel) ys_49)
set_option maxRecDepth 100000 in
/-- cX10_judge(0,) -/
theorem ys_50 : ai_shows yz_fnd yz_ctf yz_ctk yz_N ai_T ai_B1 20000 50 yz_fr = true := by decide +kernel
theorem yl_51 {sb : ai_SB} : ∀ j, j < 51 → ct_ok yz_ctf yz_ctk sb j := ct_more yl_50 (ct_step yz_fr yz_hf yl_50 rfl (by decide +kernel) (by decide +kernel) ys_50)
set_option maxRecDepth 100000 in
/-- cX10_keep(0,) -/
theorem ys_51 : ai_shows yz_fnd yz_ctf yz_ctk yz_N ai_T ai_B1 20000 51 yz_fr = true := by decide +kernel
theorem yl_52 {sb : ai_SB} : ∀ j, j < 52 → ct_ok yz_ctf yz_ctk sb j := ct_more yl_51 (ct_step yz_fr yz_hf yl_51 rfl (by decide +kernel) (by decide +kernel) ys_51)
set_option maxRecDepth 100000 in
/-- cX10_led(0,) -/
theorem ys_52 : ai_shows yz_fnd yz_ctf yz_ctk yz_N ai_T ai_B1 20000 52 yz_fr = true := by decide +kernel
theorem yl_53 {sb : ai_SB} : ∀ j, j < 53 → ct_ok yz_ctf yz_ctk sb j := ct_more yl_52 (ct_step yz_fr yz_hf yl_52 rfl (by decide +kernel) (by decide +kernel) ys_52)
set_option maxRecDepth 100000 in
/-- cX10_leg(0,) -/
theorem ys_53 : ai_shows yz_fnd yz_ctf yz_ctk yz_N ai_T ai_B1 20000 53 yz_fr = true := by decide +kernel
theorem yl_54 {sb : ai_SB} : ∀ j, j < 54 → ct_ok yz_ctf yz_ctk sb j := ct_more yl_53 (ct_step yz_fr yz_hf yl_53 rfl (by decide +kernel) (by decide +kernel) ys_53)
set_option maxRecDepth 100000 in
/-- cX10_likeOf(0,) -/
theorem ys_54 : ai_shows yz_fnd yz_ctf yz_ctk yz_N ai_T ai_B1 20000 54 yz_fr = true := by decide +kernel
theorem yl_55 {sb : ai_SB} : ∀ j, j < 55 → ct_ok yz_ctf yz_ctk sb j := ct_more yl_54 (ct_step yz_fr yz_hf yl_54 rfl (by decide +kernel) (by decide +kernel) ys_54)
set_option maxRecDepth 100000 in
/-- cX10_like(0,) -/
theorem ys_55 : ai_shows yz_fnd yz_ctf yz_ctk yz_N ai_T ai_B1 20000 55 yz_fr = true := by decide +kernel
theorem yl_56 {sb : ai_SB} : ∀ j, j < 56 → ct_ok yz_ctf yz_ctk sb j := ct_more yl_55 (ct_step yz_fr yz_hf yl_55 rfl (by decide +kernel) (by decide +kernel) ys_55)
set_option maxRecDepth 100000 in
/-- cX10_moved(0,) -/
theorem ys_56 : ai_shows yz_fnd yz_ctf yz_ctk yz_N ai_T ai_B1 20000 56 yz_fr = true := by decide +kernel
theorem yl_57 {sb : ai_SB} : ∀ j, j < 57 → ct_ok yz_ctf yz_ctk sb j := ct_more yl_56 (ct_step yz_fr yz_hf yl_56 rfl (by decide +kernel) (by decide +kernel) ys_56)
set_option maxRecDepth 100000 in
/-- cX10_name(0,) -/
theorem ys_57 : ai_shows yz_fnd yz_ctf yz_ctk yz_N ai_T ai_B1 20000 57 yz_fr = true := by decide +kernel
theorem yl_58 {sb : ai_SB} : ∀ j, j < 58 → ct_ok yz_ctf yz_ctk sb j := ct_more yl_57 (ct_step yz_fr yz_hf yl_57 rfl (by decide +kernel) (by decide +kernel) ys_57)

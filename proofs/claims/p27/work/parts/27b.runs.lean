set_option maxRecDepth 100000 in
/-- cX10_mayBe() -/
theorem ns_36 : ai_shows ny_fnd ny_ctf ny_ctk ny_N ai_T ai_B1 20000 36 ny_fr = true := by decide +kernel
theorem nl_37 {sb : ai_SB} : ∀ j, j < 37 → ct_ok ny_ctf ny_ctk sb j := ct_more nl_36 (ct_step ny_fr ny_hf nl_36 rfl (by decide +kernel) (by decide +kernel) ns_36)
set_option maxRecDepth 100000 in
/-- cX10_doors(0,) -/
theorem ns_37 : ai_shows ny_fnd ny_ctf ny_ctk ny_N ai_T ai_B1 20000 37 ny_fr = true := by decide +kernel
theorem nl_38 {sb : ai_SB} : ∀ j, j < 38 → ct_ok ny_ctf ny_ctk sb j := ct_more nl_37 (ct_step ny_fr ny_hf nl_37 rfl (by decide +kernel) (by decide +kernel) ns_37)
set_option maxRecDepth 100000 in
/-- cX10_end(0,) -/
theorem ns_38 : ai_shows ny_fnd ny_ctf ny_ctk ny_N ai_T ai_B1 20000 38 ny_fr = true := by decide +kernel
theorem nl_39 {sb : ai_SB} : ∀ j, j < 39 → ct_ok ny_ctf ny_ctk sb j := ct_more nl_38 (ct_step ny_fr ny_hf nl_38 rfl (by decide +kernel) (by decide +kernel) ns_38)
set_option maxRecDepth 100000 in
/-- cX10_fault(0,) -/
theorem ns_39 : ai_shows ny_fnd ny_ctf ny_ctk ny_N ai_T ai_B1 20000 39 ny_fr = true := by decide +kernel
theorem nl_40 {sb : ai_SB} : ∀ j, j < 40 → ct_ok ny_ctf ny_ctk sb j := ct_more nl_39 (ct_step ny_fr ny_hf nl_39 rfl (by decide +kernel) (by decide +kernel) ns_39)
set_option maxRecDepth 100000 in
/-- cX10_feed(0,) -/
theorem ns_40 : ai_shows ny_fnd ny_ctf ny_ctk ny_N ai_T ai_B1 20000 40 ny_fr = true := by decide +kernel
theorem nl_41 {sb : ai_SB} : ∀ j, j < 41 → ct_ok ny_ctf ny_ctk sb j := ct_more nl_40 (ct_step ny_fr ny_hf nl_40 rfl (by decide +kernel) (by decide +kernel) ns_40)
set_option maxRecDepth 100000 in
/-- cX10_findWinner(0,) -/
theorem ns_41 : ai_shows ny_fnd ny_ctf ny_ctk ny_N ai_T ai_B1 20000 41 ny_fr = true := by decide +kernel
theorem nl_42 {sb : ai_SB} : ∀ j, j < 42 → ct_ok ny_ctf ny_ctk sb j := ct_more nl_41 (ct_step ny_fr ny_hf nl_41 rfl (by decide +kernel) (by decide +kernel) ns_41)
set_option maxRecDepth 100000 in
/-- cX10_force(0,) -/
theorem ns_42 : ai_shows ny_fnd ny_ctf ny_ctk ny_N ai_T ai_B1 20000 42 ny_fr = true := by decide +kernel
theorem nl_43 {sb : ai_SB} : ∀ j, j < 43 → ct_ok ny_ctf ny_ctk sb j := ct_more nl_42 (ct_step ny_fr ny_hf nl_42 rfl (by decide +kernel) (by decide +kernel) ns_42)
set_option maxRecDepth 100000 in
/-- cX10_found(0,) -/
theorem ns_43 : ai_shows ny_fnd ny_ctf ny_ctk ny_N ai_T ai_B1 20000 43 ny_fr = true := by decide +kernel
theorem nl_44 {sb : ai_SB} : ∀ j, j < 44 → ct_ok ny_ctf ny_ctk sb j := ct_more nl_43 (ct_step ny_fr ny_hf nl_43 rfl (by decide +kernel) (by decide +kernel) ns_43)
set_option maxRecDepth 100000 in
/-- cX10_hand(0,) -/
theorem ns_44 : ai_shows ny_fnd ny_ctf ny_ctk ny_N ai_T ai_B1 20000 44 ny_fr = true := by decide +kernel
theorem nl_45 {sb : ai_SB} : ∀ j, j < 45 → ct_ok ny_ctf ny_ctk sb j := ct_more nl_44 (ct_step ny_fr ny_hf nl_44 rfl (by decide +kernel) (by decide +kernel) ns_44)
set_option maxRecDepth 100000 in
/-- cX10_hangs(0,) -/
theorem ns_45 : ai_shows ny_fnd ny_ctf ny_ctk ny_N ai_T ai_B1 20000 45 ny_fr = true := by decide +kernel
theorem nl_46 {sb : ai_SB} : ∀ j, j < 46 → ct_ok ny_ctf ny_ctk sb j := ct_more nl_45 (ct_step ny_fr ny_hf nl_45 rfl (by decide +kernel) (by decide +kernel) ns_45)
set_option maxRecDepth 100000 in
/-- cX10_held(0,) -/
theorem ns_46 : ai_shows ny_fnd ny_ctf ny_ctk ny_N ai_T ai_B1 20000 46 ny_fr = true := by decide +kernel
theorem nl_47 {sb : ai_SB} : ∀ j, j < 47 → ct_ok ny_ctf ny_ctk sb j := ct_more nl_46 (ct_step ny_fr ny_hf nl_46 rfl (by decide +kernel) (by decide +kernel) ns_46)
set_option maxRecDepth 100000 in
/-- cX10_joinBooths(0,) -/
theorem ns_47 : ai_shows ny_fnd ny_ctf ny_ctk ny_N ai_T ai_B1 20000 47 ny_fr = true := by decide +kernel
theorem nl_48 {sb : ai_SB} : ∀ j, j < 48 → ct_ok ny_ctf ny_ctk sb j := ct_more nl_47 (ct_step ny_fr ny_hf nl_47 rfl (by decide +kernel) (by decide +kernel) ns_47)
set_option maxRecDepth 100000 in
/-- cX10_hidden(0,) -/
theorem ns_48 : ai_shows ny_fnd ny_ctf ny_ctk ny_N ai_T ai_B1 20000 48 ny_fr = true := by decide +kernel
theorem nl_49 {sb : ai_SB} : ∀ j, j < 49 → ct_ok ny_ctf ny_ctk sb j := ct_more nl_48 (ct_step ny_fr ny_hf nl_48 rfl (by decide +kernel) (by decide +kernel) ns_48)
set_option maxRecDepth 100000 in
/-- cX10_isBarred(0,) -/
theorem ns_49 : ai_shows ny_fnd ny_ctf ny_ctk ny_N ai_T ai_B1 20000 49 ny_fr = true := by decide +kernel
theorem nl_50 {sb : ai_SB} : ∀ j, j < 50 → ct_ok ny_ctf ny_ctk sb j := ct_more nl_49 (ct_step ny_fr ny_hf nl_49 rfl (by decide +kernel) (by decide +kernel) ns_49)
set_option maxRecDepth 100000 in
/-- cX10_judge(0,) -/
theorem ns_50 : ai_shows ny_fnd ny_ctf ny_ctk ny_N ai_T ai_B1 20000 50 ny_fr = true := by decide +kernel
theorem nl_51 {sb : ai_SB} : ∀ j, j < 51 → ct_ok ny_ctf ny_ctk sb j := ct_more nl_50 (ct_step ny_fr ny_hf nl_50 rfl (by decide +kernel) (by decide +kernel) ns_50)
set_option maxRecDepth 100000 in
/-- cX10_keep(0,) -/
theorem ns_51 : ai_shows ny_fnd ny_ctf ny_ctk ny_N ai_T ai_B1 20000 51 ny_fr = true := by decide +kernel
theorem nl_52 {sb : ai_SB} : ∀ j, j < 52 → ct_ok ny_ctf ny_ctk sb j := ct_more nl_51 (ct_step ny_fr ny_hf nl_51 rfl (by decide +kernel) (by decide +kernel) ns_51)
set_option maxRecDepth 100000 in
/-- cX10_led(0,) -/
theorem ns_52 : ai_shows ny_fnd ny_ctf ny_ctk ny_N ai_T ai_B1 20000 52 ny_fr = true := by decide +kernel
theorem nl_53 {sb : ai_SB} : ∀ j, j < 53 → ct_ok ny_ctf ny_ctk sb j := ct_more nl_52 (ct_step ny_fr ny_hf nl_52 rfl (by decide +kernel) (by decide +kernel) ns_52)
set_option maxRecDepth 100000 in
/-- cX10_leg(0,) -/
theorem ns_53 : ai_shows ny_fnd ny_ctf ny_ctk ny_N ai_T ai_B1 20000 53 ny_fr = true := by decide +kernel
theorem nl_54 {sb : ai_SB} : ∀ j, j < 54 → ct_ok ny_ctf ny_ctk sb j := ct_more nl_53 (ct_step ny_fr ny_hf nl_53 rfl (by decide +kernel) (by decide +kernel) ns_53)
set_option maxRecDepth 100000 in
/-- cX10_likeOf(0,) -/
theorem ns_54 : ai_shows ny_fnd ny_ctf ny_ctk ny_N ai_T ai_B1 20000 54 ny_fr = true := by decide +kernel
theorem nl_55 {sb : ai_SB} : ∀ j, j < 55 → ct_ok ny_ctf ny_ctk sb j := ct_more nl_54 (ct_step ny_fr ny_hf nl_54 rfl (by decide +kernel) (by decide +kernel) ns_54)
set_option maxRecDepth 100000 in
/-- cX10_like(0,) -/
theorem ns_55 : ai_shows ny_fnd ny_ctf ny_ctk ny_N ai_T ai_B1 20000 55 ny_fr = true := by decide +kernel
theorem nl_56 {sb : ai_SB} : ∀ j, j < 56 → ct_ok ny_ctf ny_ctk sb j := ct_more nl_55 (ct_step ny_fr ny_hf nl_55 rfl (by decide +kernel) (by decide +kernel) ns_55)
set_option maxRecDepth 100000 in
/-- cX10_moved(0,) -/
theorem ns_56 : ai_shows ny_fnd ny_ctf ny_ctk ny_N ai_T ai_B1 20000 56 ny_fr = true := by decide +kernel
theorem nl_57 {sb : ai_SB} : ∀ j, j < 57 → ct_ok ny_ctf ny_ctk sb j := ct_more nl_56 (ct_step ny_fr ny_hf nl_56 rfl (by decide +kernel) (by decide +kernel) ns_56)
set_option maxRecDepth 100000 in
/-- cX10_name(0,) -/
theorem ns_57 : ai_shows ny_fnd ny_ctf ny_ctk ny_N ai_T ai_B1 20000 57 ny_fr = true := by decide +kernel
theorem nl_58 {sb : ai_SB} : ∀ j, j < 58 → ct_ok ny_ctf ny_ctk sb j := ct_more nl_57 (ct_step ny_fr ny_hf nl_57 rfl (by decide +kernel) (by decide +kernel) ns_57)

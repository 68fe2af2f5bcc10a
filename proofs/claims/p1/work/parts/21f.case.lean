set_option maxRecDepth 100000 in
theorem zz_c1064 : zz_good (af_ex ai_T ai_B1 zz_hk zz_N 7 100000 0 [] (ai_B1 0 1064) zz_G zz_x0) = true := by decide +kernel

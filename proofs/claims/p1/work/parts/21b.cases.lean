set_option maxRecDepth 100000 in
theorem zz_c236 : zz_good (af_ex ai_T ai_B1 zz_hk zz_N 7 100000 0 [] (ai_B1 0 236) zz_G zz_x0) = true := by decide +kernel
set_option maxRecDepth 100000 in
theorem zz_c279 : zz_good (af_ex ai_T ai_B1 zz_hk zz_N 7 100000 0 [] (ai_B1 0 279) zz_G zz_x0) = true := by decide +kernel
set_option maxRecDepth 100000 in
theorem zz_c354 : zz_good (af_ex ai_T ai_B1 zz_hk zz_N 7 100000 0 [] (ai_B1 0 354) zz_G zz_x0) = true := by decide +kernel
set_option maxRecDepth 100000 in
theorem zz_c387 : zz_good (af_ex ai_T ai_B1 zz_hk zz_N 7 100000 0 [] (ai_B1 0 387) zz_G zz_x0) = true := by decide +kernel
set_option maxRecDepth 100000 in
theorem zz_c430 : zz_good (af_ex ai_T ai_B1 zz_hk zz_N 7 100000 0 [] (ai_B1 0 430) zz_G zz_x0) = true := by decide +kernel
set_option maxRecDepth 100000 in
theorem zz_c483 : zz_good (af_ex ai_T ai_B1 zz_hk zz_N 7 100000 0 [] (ai_B1 0 483) zz_G zz_x0) = true := by decide +kernel
set_option maxRecDepth 100000 in
theorem zz_c516 : zz_good (af_ex ai_T ai_B1 zz_hk zz_N 7 100000 0 [] (ai_B1 0 516) zz_G zz_x0) = true := by decide +kernel
set_option maxRecDepth 100000 in
theorem zz_c559 : zz_good (af_ex ai_T ai_B1 zz_hk zz_N 7 100000 0 [] (ai_B1 0 559) zz_G zz_x0) = true := by decide +kernel
set_option maxRecDepth 100000 in
theorem zz_c602 : zz_good (af_ex ai_T ai_B1 zz_hk zz_N 7 100000 0 [] (ai_B1 0 602) zz_G zz_x0) = true := by decide +kernel
set_option maxRecDepth 100000 in
theorem zz_c645 : zz_good (af_ex ai_T ai_B1 zz_hk zz_N 7 100000 0 [] (ai_B1 0 645) zz_G zz_x0) = true := by decide +kernel
set_option maxRecDepth 100000 in
theorem zz_c678 : zz_good (af_ex ai_T ai_B1 zz_hk zz_N 7 100000 0 [] (ai_B1 0 678) zz_G zz_x0) = true := by decide +kernel
set_option maxRecDepth 100000 in
theorem zz_c754 : zz_good (af_ex ai_T ai_B1 zz_hk zz_N 7 100000 0 [] (ai_B1 0 754) zz_G zz_x0) = true := by decide +kernel
set_option maxRecDepth 100000 in
theorem zz_c817 : zz_good (af_ex ai_T ai_B1 zz_hk zz_N 7 100000 0 [] (ai_B1 0 817) zz_G zz_x0) = true := by decide +kernel
set_option maxRecDepth 100000 in
theorem zz_c840 : zz_good (af_ex ai_T ai_B1 zz_hk zz_N 7 100000 0 [] (ai_B1 0 840) zz_G zz_x0) = true := by decide +kernel
set_option maxRecDepth 100000 in
theorem zz_c863 : zz_good (af_ex ai_T ai_B1 zz_hk zz_N 7 100000 0 [] (ai_B1 0 863) zz_G zz_x0) = true := by decide +kernel
set_option maxRecDepth 100000 in
theorem zz_c876 : zz_good (af_ex ai_T ai_B1 zz_hk zz_N 7 100000 0 [] (ai_B1 0 876) zz_G zz_x0) = true := by decide +kernel
set_option maxRecDepth 100000 in
theorem zz_c972 : zz_good (af_ex ai_T ai_B1 zz_hk zz_N 7 100000 0 [] (ai_B1 0 972) zz_G zz_x0) = true := by decide +kernel
set_option maxRecDepth 100000 in
theorem zz_c995 : zz_good (af_ex ai_T ai_B1 zz_hk zz_N 7 100000 0 [] (ai_B1 0 995) zz_G zz_x0) = true := by decide +kernel
set_option maxRecDepth 100000 in
theorem zz_c1041 : zz_good (af_ex ai_T ai_B1 zz_hk zz_N 7 100000 0 [] (ai_B1 0 1041) zz_G zz_x0) = true := by decide +kernel
set_option maxRecDepth 100000 in
theorem zz_c1107 : zz_good (af_ex ai_T ai_B1 zz_hk zz_N 7 100000 0 [] (ai_B1 0 1107) zz_G zz_x0) = true := by decide +kernel
set_option maxRecDepth 100000 in
theorem zz_c1130 : zz_good (af_ex ai_T ai_B1 zz_hk zz_N 7 100000 0 [] (ai_B1 0 1130) zz_G zz_x0) = true := by decide +kernel
set_option maxRecDepth 100000 in
theorem zz_c1163 : zz_good (af_ex ai_T ai_B1 zz_hk zz_N 7 100000 0 [] (ai_B1 0 1163) zz_G zz_x0) = true := by decide +kernel
set_option maxRecDepth 100000 in
theorem zz_c1226 : zz_good (af_ex ai_T ai_B1 zz_hk zz_N 7 100000 0 [] (ai_B1 0 1226) zz_G zz_x0) = true := by decide +kernel
set_option maxRecDepth 100000 in
theorem zz_c1269 : zz_good (af_ex ai_T ai_B1 zz_hk zz_N 7 100000 0 [] (ai_B1 0 1269) zz_G zz_x0) = true := by decide +kernel
set_option maxRecDepth 100000 in
theorem zz_c1312 : zz_good (af_ex ai_T ai_B1 zz_hk zz_N 7 100000 0 [] (ai_B1 0 1312) zz_G zz_x0) = true := by decide +kernel
set_option maxRecDepth 100000 in
theorem zz_c1365 : zz_good (af_ex ai_T ai_B1 zz_hk zz_N 7 100000 0 [] (ai_B1 0 1365) zz_G zz_x0) = true := by decide +kernel
set_option maxRecDepth 100000 in
theorem zz_c1428 : zz_good (af_ex ai_T ai_B1 zz_hk zz_N 7 100000 0 [] (ai_B1 0 1428) zz_G zz_x0) = true := by decide +kernel
set_option maxRecDepth 100000 in
theorem zz_c1481 : zz_good (af_ex ai_T ai_B1 zz_hk zz_N 7 100000 0 [] (ai_B1 0 1481) zz_G zz_x0) = true := by decide +kernel
set_option maxRecDepth 100000 in
theorem zz_c1567 : zz_good (af_ex ai_T ai_B1 zz_hk zz_N 7 100000 0 [] (ai_B1 0 1567) zz_G zz_x0) = true := by decide +kernel
set_option maxRecDepth 100000 in
theorem zz_c1683 : zz_good (af_ex ai_T ai_B1 zz_hk zz_N 7 100000 0 [] (ai_B1 0 1683) zz_G zz_x0) = true := by decide +kernel
set_option maxRecDepth 100000 in
theorem zz_c1716 : zz_good (af_ex ai_T ai_B1 zz_hk zz_N 7 100000 0 [] (ai_B1 0 1716) zz_G zz_x0) = true := by decide +kernel
set_option maxRecDepth 100000 in
theorem zz_c1759 : zz_good (af_ex ai_T ai_B1 zz_hk zz_N 7 100000 0 [] (ai_B1 0 1759) zz_G zz_x0) = true := by decide +kernel
set_option maxRecDepth 100000 in
theorem zz_c1792 : zz_good (af_ex ai_T ai_B1 zz_hk zz_N 7 100000 0 [] (ai_B1 0 1792) zz_G zz_x0) = true := by decide +kernel
set_option maxRecDepth 100000 in
theorem zz_c1825 : zz_good (af_ex ai_T ai_B1 zz_hk zz_N 7 100000 0 [] (ai_B1 0 1825) zz_G zz_x0) = true := by decide +kernel
set_option maxRecDepth 100000 in
theorem zz_c1878 : zz_good (af_ex ai_T ai_B1 zz_hk zz_N 7 100000 0 [] (ai_B1 0 1878) zz_G zz_x0) = true := by decide +kernel
set_option maxRecDepth 100000 in
theorem zz_c1901 : zz_good (af_ex ai_T ai_B1 zz_hk zz_N 7 100000 0 [] (ai_B1 0 1901) zz_G zz_x0) = true := by decide +kernel
set_option maxRecDepth 100000 in
theorem zz_c1934 : zz_good (af_ex ai_T ai_B1 zz_hk zz_N 7 100000 0 [] (ai_B1 0 1934) zz_G zz_x0) = true := by decide +kernel
set_option maxRecDepth 100000 in
theorem zz_c1957 : zz_good (af_ex ai_T ai_B1 zz_hk zz_N 7 100000 0 [] (ai_B1 0 1957) zz_G zz_x0) = true := by decide +kernel
set_option maxRecDepth 100000 in
theorem zz_c1980 : zz_good (af_ex ai_T ai_B1 zz_hk zz_N 7 100000 0 [] (ai_B1 0 1980) zz_G zz_x0) = true := by decide +kernel
set_option maxRecDepth 100000 in
theorem zz_c2003 : zz_good (af_ex ai_T ai_B1 zz_hk zz_N 7 100000 0 [] (ai_B1 0 2003) zz_G zz_x0) = true := by decide +kernel
set_option maxRecDepth 100000 in
theorem zz_c2026 : zz_good (af_ex ai_T ai_B1 zz_hk zz_N 7 100000 0 [] (ai_B1 0 2026) zz_G zz_x0) = true := by decide +kernel
set_option maxRecDepth 100000 in
theorem zz_c2039 : zz_good (af_ex ai_T ai_B1 zz_hk zz_N 7 100000 0 [] (ai_B1 0 2039) zz_G zz_x0) = true := by decide +kernel

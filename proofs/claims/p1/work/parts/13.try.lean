theorem zz_t1 : (ai_ex ai_T ai_B (fun _ _ _ _ => none) 7 3000 0 [16] (ai_B 0 0) [] ([(0, (7, 0, 0, 0))], [], [], 0, 0)).map (fun l => l.length) = some 1 := by decide +kernel

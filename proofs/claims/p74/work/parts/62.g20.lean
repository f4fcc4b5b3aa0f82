set_option maxRecDepth 100000 in
theorem kk_220 : b_chk r_hk q_D kc_I r_fp 3000 kc_220 [] [kc_55, kc_57, kc_219] []
   [] = true := by decide +kernel
set_option maxRecDepth 100000 in
theorem kk_221 : b_chk r_hk q_D kc_I r_fp 3000 kc_221 [] [] []
   [] = true := by decide +kernel
set_option maxRecDepth 100000 in
theorem kk_222 : b_chk r_hk q_D kc_I r_fp 3000 kc_222 [] [] []
   [] = true := by decide +kernel
set_option maxRecDepth 100000 in
theorem kk_223 : b_chk r_hk q_D kc_I r_fp 3000 kc_223 [] [] []
   [] = true := by decide +kernel
set_option maxRecDepth 100000 in
theorem kk_224 : b_chk r_hk q_D kc_I r_fp 3000 kc_224 [] [kc_221, kc_222, kc_223] []
   [] = true := by decide +kernel
set_option maxRecDepth 100000 in
theorem kk_225 : b_chk r_hk q_D kc_I r_fp 3000 kc_225 [] [] []
   [] = true := by decide +kernel
set_option maxRecDepth 100000 in
theorem kk_226 : b_chk r_hk q_D kc_I r_fp 3000 kc_226 [] [] []
   [] = true := by decide +kernel
set_option maxRecDepth 100000 in
theorem kk_227 : b_chk r_hk q_D kc_I r_fp 3000 kc_227 [] [] []
   [] = true := by decide +kernel
set_option maxRecDepth 100000 in
theorem kk_228 : b_chk r_hk q_D kc_I r_fp 3000 kc_228 [] [kc_69, kc_225, kc_226, kc_227] []
   [] = true := by decide +kernel
set_option maxRecDepth 100000 in
theorem kk_229 : b_chk r_hk q_D kc_I r_fp 3000 kc_229 [] [] []
   [(6, [], [], [((1, [(0, 0, 60)], [], [], []), [(0, .inr (.inl 86)), (1, .inl (true, ([], 0))), (3, .inl (false, ([(0, 1)], 0))), (4, .inl (false, ([], 60)))], ([(0, (-1))], 60))])] = true := by decide +kernel
set_option maxRecDepth 100000 in
theorem kk_230 : b_chk r_hk q_D kc_I r_fp 3000 kc_230 [] [kc_229] []
   [] = true := by decide +kernel

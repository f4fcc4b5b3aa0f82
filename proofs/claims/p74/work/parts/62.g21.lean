set_option maxRecDepth 100000 in
theorem kk_231 : b_chk r_hk q_D kc_I r_fp 3000 kc_231 [] [] []
   [(6, [], [], [((1, [(0, 0, 60)], [], [], []), [(0, .inr (.inl 88)), (1, .inl (true, ([], 0))), (3, .inl (false, ([(0, 1)], 0))), (4, .inl (false, ([], 60)))], ([(0, (-1))], 60))])] = true := by decide +kernel
set_option maxRecDepth 100000 in
theorem kk_232 : b_chk r_hk q_D kc_I r_fp 3000 kc_232 [] [kc_231] []
   [] = true := by decide +kernel
set_option maxRecDepth 100000 in
theorem kk_233 : b_chk r_hk q_D kc_I r_fp 3000 kc_233 [] [] []
   [(6, [], [], [((1, [(0, 0, 60)], [], [], []), [(0, .inr (.inl 90)), (1, .inl (true, ([], 0))), (3, .inl (false, ([(0, 1)], 0))), (4, .inl (false, ([], 60)))], ([(0, (-1))], 60))])] = true := by decide +kernel
set_option maxRecDepth 100000 in
theorem kk_234 : b_chk r_hk q_D kc_I r_fp 3000 kc_234 [] [kc_233] []
   [] = true := by decide +kernel
set_option maxRecDepth 100000 in
theorem kk_235 : b_chk r_hk q_D kc_I r_fp 3000 kc_235 [] [] []
   [(6, [], [], [((1, [(0, 0, 60)], [], [], []), [(0, .inr (.inl 92)), (1, .inl (true, ([], 0))), (3, .inl (false, ([(0, 1)], 0))), (4, .inl (false, ([], 60)))], ([(0, (-1))], 60))])] = true := by decide +kernel
set_option maxRecDepth 100000 in
theorem kk_236 : b_chk r_hk q_D kc_I r_fp 3000 kc_236 [] [kc_235] []
   [] = true := by decide +kernel
set_option maxRecDepth 100000 in
theorem kk_237 : b_chk r_hk q_D kc_I r_fp 3000 kc_237 [142] [kc_230, kc_232, kc_234, kc_236] []
   [] = true := by decide +kernel
set_option maxRecDepth 100000 in
theorem kk_238 : b_chk r_hk q_D kc_I r_fp 3000 kc_238 [] [] []
   [] = true := by decide +kernel
set_option maxRecDepth 100000 in
theorem kk_239 : b_chk r_hk q_D kc_I r_fp 3000 kc_239 [] [] []
   [] = true := by decide +kernel
set_option maxRecDepth 100000 in
theorem kk_240 : b_chk r_hk q_D kc_I r_fp 3000 kc_240 [] [] []
   [] = true := by decide +kernel
set_option maxRecDepth 100000 in
theorem kk_241 : b_chk r_hk q_D kc_I r_fp 3000 kc_241 [] [] []
   [] = true := by decide +kernel

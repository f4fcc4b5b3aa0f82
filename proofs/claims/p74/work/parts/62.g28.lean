set_option maxRecDepth 100000 in
theorem kk_328 : b_chk r_hk q_D kc_I r_fp 3000 kc_328 [] [kc_327] []
   [(5, [], [], [((4, [(0, 0, 19), (1, 0, 5), (2, (-2147483648), 2147483647), (3, 0, 20)], [], [], []), [(0, .inr (.inl 93)), (1, .inl (false, ([(0, 1)], 0))), (2, .inl (false, ([(1, 1)], 0))), (3, .inl (false, ([(2, 1)], 0))), (4, .inl (false, ([(3, 1)], 0)))], ([(3, (-1))], 20))])] = true := by decide +kernel
set_option maxRecDepth 100000 in
theorem kk_329 : b_chk r_hk q_D kc_I r_fp 3000 kc_329 [218, 239, 252] [kc_328] []
   [] = true := by decide +kernel
set_option maxRecDepth 100000 in
theorem kk_330 : b_chk r_hk q_D kc_I r_fp 3000 kc_330 [218, 240] [] []
   [] = true := by decide +kernel
set_option maxRecDepth 100000 in
theorem kk_331 : b_chk r_hk q_D kc_I r_fp 3000 kc_331 [] [kc_330] []
   [] = true := by decide +kernel
set_option maxRecDepth 100000 in
theorem kk_332 : b_chk r_hk q_D kc_I r_fp 3000 kc_332 [] [kc_328] []
   [] = true := by decide +kernel
set_option maxRecDepth 100000 in
theorem kk_333 : b_chk r_hk q_D kc_I r_fp 3000 kc_333 [218, 239, 252] [kc_331, kc_332] []
   [] = true := by decide +kernel
set_option maxRecDepth 100000 in
theorem kk_334 : b_chk r_hk q_D kc_I r_fp 3000 kc_334 [218] [] []
   [] = true := by decide +kernel
set_option maxRecDepth 100000 in
theorem kk_335 : b_chk r_hk q_D kc_I r_fp 3000 kc_335 [] [kc_325, kc_326] []
   [(5, [], [], [((4, [(0, 0, 1048575), (1, (-2147483648), 2147483647), (2, (-2147483648), 2147483647), (3, 0, 20)], [], [], []), [(0, .inr (.inl 93)), (1, .inl (false, ([(0, 1)], 0))), (2, .inl (false, ([(1, 1)], 0))), (3, .inl (false, ([(2, 1)], 0))), (4, .inl (false, ([(3, 1)], 0)))], ([(3, (-22))], 461))]),
    (49, [], [], [((5, [(0, 0, 1048575), (1, (-2147483648), 2147483647), (2, (-2147483648), 2147483647), (3, 0, 19), (4, 0, 20)], [], [], []), [(0, .inr (.inl 93)), (1, .inl (false, ([(0, 1)], 0))), (2, .inl (false, ([(1, 1)], 0))), (3, .inl (false, ([(2, 1)], 0))), (4, .inl (false, ([(3, 1)], 0))), (5, .inl (false, ([(4, 1)], 0)))], ([(3, (-22)), (4, (-1))], 460))])] = true := by decide +kernel
set_option maxRecDepth 100000 in
theorem kk_336 : b_chk r_hk q_D kc_I r_fp 3000 kc_336 [249] [kc_323, kc_334, kc_335] []
   [] = true := by decide +kernel
set_option maxRecDepth 100000 in
theorem kk_337 : b_chk r_hk q_D kc_I r_fp 3000 kc_337 [] [kc_325] []
   [(4, [], [], [((3, [(0, (-2147483648), 2147483647), (1, 0, 20), (2, 0, 20)], [([(1, (-1)), (2, 1)], 0)], [], []), [(0, .inr (.inl 93)), (1, .inl (false, ([(0, 1)], 0))), (2, .inl (false, ([(1, 1)], 0))), (3, .inl (false, ([(2, 1)], 0)))], ([(2, (-1))], 20))])] = true := by decide +kernel
set_option maxRecDepth 100000 in
theorem kk_338 : b_chk r_hk q_D kc_I r_fp 3000 kc_338 [249] [kc_334, kc_337] []
   [] = true := by decide +kernel

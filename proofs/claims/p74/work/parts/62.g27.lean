set_option maxRecDepth 100000 in
theorem kk_316 : b_chk r_hk q_D kc_I r_fp 3000 kc_316 [218, 226, 231, 232] [kc_247, kc_251, kc_255, kc_259, kc_315] []
   [] = true := by decide +kernel
set_option maxRecDepth 100000 in
theorem kk_318 : b_chk r_hk q_D kc_I r_fp 3000 kc_318 [] [] []
   [] = true := by decide +kernel
set_option maxRecDepth 100000 in
theorem kk_319 : b_chk r_hk q_D kc_I r_fp 3000 kc_319 [218, 239, 240] [] []
   [] = true := by decide +kernel
set_option maxRecDepth 100000 in
theorem kk_320 : b_chk r_hk q_D kc_I r_fp 3000 kc_320 [240, 244] [] []
   [(5, [(3, 1)], [], [((3, [(0, (-2147483648), 2147483647), (1, (-2147483648), 2147483647), (2, 0, 20)], [([(2, 1)], 0)], [], []), [(0, .inr (.inl 93)), (1, .inl (false, ([(0, 1)], 0))), (2, .inl (false, ([(1, 1)], 0))), (3, .inl (false, ([], 0))), (4, .inl (false, ([(2, 1)], 0)))], ([(2, (-1))], 20)), ((4, [(0, (-2147483648), 2147483647), (1, (-2147483648), 2147483647), (2, 1, 20), (3, 1, 20)], [([(2, (-1)), (3, 1)], 0)], [], []), [(0, .inr (.inl 93)), (1, .inl (false, ([(0, 1)], 0))), (2, .inl (false, ([(1, 1)], 0))), (3, .inl (false, ([(2, 1)], 0))), (4, .inl (false, ([(3, 1)], 0)))], ([(3, (-1))], 20))])] = true := by decide +kernel
set_option maxRecDepth 100000 in
theorem kk_321 : b_chk r_hk q_D kc_I r_fp 3000 kc_321 [218, 240, 246, 247] [] []
   [(4, [(2, 1)], [], [((2, [(0, 0, 7), (1, 0, 20)], [([(1, 1)], 0)], [], []), [(0, .inr (.inl 93)), (1, .inl (false, ([(0, 1)], 0))), (2, .inl (false, ([], 0))), (3, .inl (false, ([(1, 1)], 0)))], ([(1, (-1))], 20)), ((3, [(0, 0, 7), (1, 1, 20), (2, 1, 20)], [([(1, (-1)), (2, 1)], 0)], [], []), [(0, .inr (.inl 93)), (1, .inl (false, ([(0, 1)], 0))), (2, .inl (false, ([(1, 1)], 0))), (3, .inl (false, ([(2, 1)], 0)))], ([(2, (-1))], 20))])] = true := by decide +kernel
set_option maxRecDepth 100000 in
theorem kk_322 : b_chk r_hk q_D kc_I r_fp 3000 kc_322 [218, 240, 242] [kc_320, kc_321] []
   [(35, [], [], [((4, [(0, 0, 7), (1, 0, 4), (2, (-1), 19), (3, (-1), 19)], [], [], []), [(0, .inr (.inl 93)), (1, .inl (false, ([(0, 1)], 0))), (2, .inl (false, ([(1, 1)], 0))), (3, .inl (false, ([(2, 1)], 0))), (4, .inl (false, ([(3, 1)], 0)))], ([(3, 1)], 1))])] = true := by decide +kernel
set_option maxRecDepth 100000 in
theorem kk_323 : b_chk r_hk q_D kc_I r_fp 3000 kc_323 [218, 240, 247] [] []
   [(4, [], [], [((1, [(0, 0, 20)], [], [], []), [(0, .inr (.inl 93)), (1, .inl (false, ([], 0))), (2, .inl (false, ([(0, 1)], 0)))], ([(0, (-1))], 20)), ((2, [(0, 0, 1048575), (1, 1, 20)], [], [], [(34, [])]), [(0, .inr (.inl 93)), (1, .inl (false, ([(0, 1)], 0))), (2, .inl (false, ([(1, 1)], 0)))], ([(1, (-1))], 20))])] = true := by decide +kernel
set_option maxRecDepth 100000 in
theorem kk_324 : b_chk r_hk q_D kc_I r_fp 3000 kc_324 [249] [kc_323] []
   [] = true := by decide +kernel
set_option maxRecDepth 100000 in
theorem kk_325 : b_chk r_hk q_D kc_I r_fp 3000 kc_325 [240] [] []
   [] = true := by decide +kernel
set_option maxRecDepth 100000 in
theorem kk_326 : b_chk r_hk q_D kc_I r_fp 3000 kc_326 [240] [kc_325] []
   [] = true := by decide +kernel
set_option maxRecDepth 100000 in
theorem kk_327 : b_chk r_hk q_D kc_I r_fp 3000 kc_327 [255] [kc_326] []
   [] = true := by decide +kernel

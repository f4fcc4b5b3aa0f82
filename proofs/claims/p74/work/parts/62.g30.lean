set_option maxRecDepth 100000 in
theorem kk_350 : b_chk r_hk q_D kc_I r_fp 3000 kc_350 [] [] []
   [(4, [(1, 1)], [], [((2, [(0, (-2147483648), 0), (1, 0, 20)], [([(1, 1)], 0)], [], []), [(0, .inl (false, ([(0, 1)], 0))), (1, .inl (false, ([], 0))), (2, .inl (false, ([(1, 1)], 0)))], ([(1, (-1))], 20)), ((3, [(0, (-2147483648), 0), (1, 1, 20), (2, 1, 20)], [([(1, (-1)), (2, 1)], 0)], [], []), [(0, .inl (false, ([(0, 1)], 0))), (1, .inl (false, ([(1, 1)], 0))), (2, .inl (false, ([(2, 1)], 0)))], ([(2, (-1))], 20))])] = true := by decide +kernel
set_option maxRecDepth 100000 in
theorem kk_351 : b_chk r_hk q_D kc_I r_fp 3000 kc_351 [218, 240, 249] [kc_323, kc_339, kc_350] [(265, 0, [1, 1048576])]
   [(24, [], [], [((2, [(0, 0, 30), (1, 0, 20)], [], [], [(0, [])]), [(0, .inr (.inl 93)), (1, .inl (false, ([(0, 1)], 0))), (2, .inl (false, ([(1, 1)], 0)))], ([(1, (-1))], 41))]),
    (67, [], [], [((2, [(0, 0, 30), (1, 0, 20)], [], [], [(0, [])]), [(0, .inr (.inl 93)), (1, .inl (false, ([(0, 1)], 0))), (2, .inl (false, ([(1, 1)], 0)))], ([(1, (-1))], 20))])] = true := by decide +kernel
set_option maxRecDepth 100000 in
theorem kk_352 : b_chk r_hk q_D kc_I r_fp 3000 kc_352 [] [kc_331] []
   [(4, [], [], [((3, [(0, 0, 19), (1, (-2147483648), 2147483647), (2, 0, 6)], [], [], []), [(0, .inr (.inl 93)), (1, .inl (false, ([(0, 1)], 0))), (2, .inl (false, ([(1, 1)], 0))), (3, .inl (false, ([(2, 1)], 0)))], ([(2, (-1))], 6))])] = true := by decide +kernel
set_option maxRecDepth 100000 in
theorem kk_353 : b_chk r_hk q_D kc_I r_fp 3000 kc_353 [218, 249] [kc_352] []
   [(27, [], [], [((4, [(0, 0, 1), (1, (-2147483648), 2147483647), (2, (-1), 19), (3, 0, 20)], [], [], []), [(0, .inr (.inl 93)), (1, .inl (false, ([(0, 1)], 0))), (2, .inl (false, ([(1, 1)], 0))), (3, .inl (false, ([(2, 1)], 0))), (4, .inl (false, ([(3, 1)], 0)))], ([(3, (-1))], 20))])] = true := by decide +kernel
set_option maxRecDepth 100000 in
theorem kk_354 : b_chk r_hk q_D kc_I r_fp 3000 kc_354 [] [kc_331, kc_332] []
   [(2, [], [], [((3, [(0, 0, 19), (1, 0, 5), (2, 0, 19)], [], [], []), [(0, .inr (.inl 93)), (1, .inl (false, ([(0, 1)], 0))), (2, .inl (false, ([(1, 1)], 0))), (3, .inl (false, ([(2, 1)], 0)))], ([(2, (-1))], 19))])] = true := by decide +kernel
set_option maxRecDepth 100000 in
theorem kk_355 : b_chk r_hk q_D kc_I r_fp 3000 kc_355 [218, 252] [kc_331, kc_354] []
   [(16, [], [], [((3, [(0, 0, 5), (1, (-2147483648), 2147483647), (2, 0, 20)], [], [], []), [(0, .inr (.inl 93)), (1, .inl (false, ([(0, 1)], 0))), (2, .inl (false, ([(1, 1)], 0))), (3, .inl (false, ([(2, 1)], 0)))], ([(2, (-1))], 20))])] = true := by decide +kernel
set_option maxRecDepth 100000 in
theorem kk_356 : b_chk r_hk q_D kc_I r_fp 3000 kc_356 [] [kc_331, kc_332] []
   [(5, [], [], [((4, [(0, 0, 19), (1, 0, 5), (2, (-2147483648), 2147483647), (3, 0, 20)], [], [], []), [(0, .inr (.inl 93)), (1, .inl (false, ([(0, 1)], 0))), (2, .inl (false, ([(1, 1)], 0))), (3, .inl (false, ([(2, 1)], 0))), (4, .inl (false, ([(3, 1)], 0)))], ([(3, (-1))], 20))])] = true := by decide +kernel
set_option maxRecDepth 100000 in
theorem kk_357 : b_chk r_hk q_D kc_I r_fp 3000 kc_357 [81] [kc_331, kc_356] []
   [(4, [], [], [((3, [(0, 0, 5), (1, 0, 2147483647), (2, 0, 20)], [], [], []), [(0, .inr (.inl 93)), (1, .inl (false, ([(0, 1)], 0))), (2, .inl (false, ([(1, 1)], 0))), (3, .inl (false, ([(2, 1)], 0)))], ([(2, (-1))], 20))])] = true := by decide +kernel
set_option maxRecDepth 100000 in
theorem kk_358 : b_chk r_hk q_D kc_I r_fp 3000 kc_358 [218, 252] [kc_357] []
   [] = true := by decide +kernel
set_option maxRecDepth 100000 in
theorem kk_359 : b_chk r_hk q_D kc_I r_fp 3000 kc_359 [249] [kc_357] []
   [(14, [], [], [((2, [(0, (-1), 5), (1, 0, 6)], [], [], []), [(0, .inr (.inl 93)), (1, .inl (false, ([(0, 1)], 0))), (2, .inl (false, ([(1, 1)], 0)))], ([(1, (-1))], 6))])] = true := by decide +kernel
set_option maxRecDepth 100000 in
theorem kk_360 : b_chk r_hk q_D kc_I r_fp 3000 kc_360 [] [] []
   [] = true := by decide +kernel

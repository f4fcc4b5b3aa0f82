set_option maxRecDepth 100000 in
theorem kk_442 : b_chk r_hk q_D kc_I r_fp 3000 kc_442 [240] [] []
   [] = true := by decide +kernel
set_option maxRecDepth 100000 in
theorem kk_443 : b_chk r_hk q_D kc_I r_fp 3000 kc_443 [218, 239, 240] [kc_323, kc_334, kc_335, kc_442] []
   [] = true := by decide +kernel
set_option maxRecDepth 100000 in
theorem kk_444 : b_chk r_hk q_D kc_I r_fp 3000 kc_444 [218, 249] [] []
   [] = true := by decide +kernel
set_option maxRecDepth 100000 in
theorem kk_445 : b_chk r_hk q_D kc_I r_fp 3000 kc_445 [] [] []
   [] = true := by decide +kernel
set_option maxRecDepth 100000 in
theorem kk_446 : b_chk r_hk q_D kc_I r_fp 3000 kc_446 [] [kc_331, kc_445] []
   [(11, [], [], [((4, [(0, (-2147483648), 9223372036854775807), (1, (-2147483648), 2147483647), (2, 0, 1048575), (3, 0, 20)], [], [], []), [(0, .inr (.inl 93)), (1, .inl (true, ([(0, 1)], 0))), (3, .inl (false, ([(1, 1)], 0))), (4, .inl (false, ([(2, 1)], 0))), (5, .inl (false, ([(3, 1)], 0)))], ([(3, (-1))], 20))])] = true := by decide +kernel
set_option maxRecDepth 100000 in
theorem kk_447 : b_chk r_hk q_D kc_I r_fp 3000 kc_447 [240] [] []
   [(4, [], [], [((3, [(0, 0, 1048575), (1, (-2147483648), 2147483647), (2, 0, 20)], [], [], []), [(0, .inr (.inl 93)), (1, .inl (false, ([(0, 1)], 0))), (2, .inl (false, ([(1, 1)], 0))), (3, .inl (false, ([(2, 1)], 0)))], ([(2, (-1))], 20))])] = true := by decide +kernel
set_option maxRecDepth 100000 in
theorem kk_448 : b_chk r_hk q_D kc_I r_fp 3000 kc_448 [218] [kc_335, kc_339, kc_350, kc_444, kc_446, kc_447] [(265, 0, [1, 1048576])]
   [] = true := by decide +kernel
set_option maxRecDepth 100000 in
theorem kk_449 : b_chk r_hk q_D kc_I r_fp 3000 kc_449 [218, 242] [kc_444, kc_446, kc_447] []
   [(39, [], [], [((6, [(0, (-2147483648), 2147483647), (1, 1, 20), (2, (-2147483648), 2147483647), (3, 0, 7), (4, (-2147483648), 2147483647), (5, 0, 20)], [], [], []), [(0, .inr (.inl 93)), (1, .inl (false, ([(0, 1)], 0))), (2, .inl (false, ([(1, 1)], 0))), (3, .inl (false, ([(2, 1)], 0))), (4, .inl (false, ([(3, 1)], 0))), (5, .inl (false, ([(4, 1)], 0))), (6, .inl (false, ([(5, 1)], 0)))], ([(5, (-1))], 20))])] = true := by decide +kernel
set_option maxRecDepth 100000 in
theorem kk_450 : b_chk r_hk q_D kc_I r_fp 3000 kc_450 [] [kc_323, kc_339, kc_350] [(265, 0, [1, 1048576])]
   [(121, [], [], [((2, [(0, (-2147483648), 2147483647), (1, 0, 5)], [], [], []), [(0, .inr (.inl 93)), (1, .inl (false, ([], 9))), (2, .inl (false, ([(0, 1)], 0))), (3, .inl (false, ([(1, 1)], 0)))], ([(1, (-1))], 5))])] = true := by decide +kernel
set_option maxRecDepth 100000 in
theorem kk_451 : b_chk r_hk q_D kc_I r_fp 3000 kc_451 [218] [] []
   [(17, [(1, 1), (1, 2)], [], [((1, [(0, 0, 319)], [], [], [(13, [([(0, 1)], 0)]), (0, []), (2, []), (3, [])]), [(0, .inr (.inl 93)), (1, .inl (false, ([], 2))), (2, .inl (false, ([(0, 1)], 0)))], ([(0, (-1))], 319)), ((1, [(0, 0, 319)], [], [], [(12, [([(0, 1)], 0)]), (0, []), (2, []), (4, [])]), [(0, .inr (.inl 93)), (1, .inl (false, ([], 1))), (2, .inl (false, ([(0, 1)], 0)))], ([(0, (-1))], 319)), ((1, [(0, 0, 319)], [], [], [(11, [([(0, 1)], 0)]), (0, []), (3, []), (4, [])]), [(0, .inr (.inl 93)), (1, .inl (false, ([], 0))), (2, .inl (false, ([(0, 1)], 0)))], ([(0, (-1))], 319))])] = true := by decide +kernel
set_option maxRecDepth 100000 in
theorem kk_452 : b_chk r_hk q_D kc_I r_fp 3000 kc_452 [218] [] []
   [(29, [(1, 1), (1, 2)], [], [((1, [(0, 0, 319)], [], [], [(16, [([(0, 1)], 0)]), (2, []), (3, []), (4, [])]), [(0, .inr (.inl 93)), (1, .inl (false, ([], 2))), (2, .inl (false, ([(0, 1)], 0)))], ([(0, (-1))], 319)), ((1, [(0, 0, 319)], [], [], [(15, [([(0, 1)], 0)]), (2, []), (3, []), (4, [])]), [(0, .inr (.inl 93)), (1, .inl (false, ([], 1))), (2, .inl (false, ([(0, 1)], 0)))], ([(0, (-1))], 319)), ((1, [(0, 0, 319)], [], [], [(14, [([(0, 1)], 0)]), (2, []), (3, []), (4, [])]), [(0, .inr (.inl 93)), (1, .inl (false, ([], 0))), (2, .inl (false, ([(0, 1)], 0)))], ([(0, (-1))], 319))])] = true := by decide +kernel

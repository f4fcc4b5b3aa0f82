set_option maxRecDepth 100000 in
theorem kk_407 : b_chk r_hk q_D kc_I r_fp 3000 kc_407 [240] [kc_163, kc_406] []
   [] = true := by decide +kernel
set_option maxRecDepth 100000 in
theorem kk_408 : b_chk r_hk q_D kc_I r_fp 3000 kc_408 [] [] []
   [(2, [(2, 0), (1082, 0)], [], [((3, [(0, 0, 19), (1, 0, 19), (2, 0, 50)], [], [], [(82, [([(1, 1)], 0), ([(2, 1)], 0)])]), [(0, .inr (.inl 93)), (1, .inl (false, ([(0, 1)], 0))), (2, .inl (false, ([(1, 1)], 0)))], ([(2, 1)], 1)), ((2, [(0, 0, 19), (1, 0, 19)], [], [], [(87, [])]), [(0, .inr (.inl 93)), (1, .inl (false, ([(0, 1)], 0))), (2, .inl (false, ([], (-1)))), (3, .inl (false, ([(1, 1)], 0))), (4, .inl (false, ([], (-1))))], ([], 0))])] = true := by decide +kernel
set_option maxRecDepth 100000 in
theorem kk_409 : b_chk r_hk q_D kc_I r_fp 3000 kc_409 [] [kc_407, kc_408] []
   [(2, [], [], [((2, [(0, 0, 19), (1, 0, 20)], [], [], [(88, []), (89, [([(0, 1)], 0)]), (92, [([(1, 1)], 0)])]), [(0, .inr (.inl 93)), (1, .inl (false, ([(0, 1)], 0))), (2, .inl (false, ([(1, 1)], 0)))], ([(1, (-1))], 1000))]),
    (35, [], [], [((3, [(0, 0, 19), (1, 0, 20), (2, 1, 20)], [([(1, (-1)), (2, 1)], 0)], [], [(85, [([(2, 1)], 0)])]), [(0, .inr (.inl 93)), (1, .inl (false, ([(0, 1)], 0))), (2, .inl (false, ([(1, 1)], 0))), (3, .inl (false, ([(2, 1)], 0)))], ([(1, (-22))], 462))]),
    (54, [(3, 20)], [], [((5, [(0, 0, 19), (1, 1, 20), (2, 1, 19), (3, 0, 19), (4, 0, 20)], [([(1, (-1)), (2, 1)], 0)], [], [(81, [([(3, 1)], 0), ([(2, 1)], 0)])]), [(0, .inr (.inl 93)), (1, .inl (false, ([(0, 1)], 0))), (2, .inl (false, ([(1, 1)], 0))), (3, .inl (false, ([(2, 1)], 0))), (4, .inl (false, ([(3, 1)], 0))), (5, .inl (false, ([(4, 1)], 0)))], ([(1, (-22)), (4, (-1))], 483)), ((4, [(0, 0, 19), (1, 1, 20), (2, 0, 19), (3, 0, 20)], [([(1, (-1))], 20)], [], [(81, [([(2, 1)], 0), ([], 20)])]), [(0, .inr (.inl 93)), (1, .inl (false, ([(0, 1)], 0))), (2, .inl (false, ([(1, 1)], 0))), (3, .inl (false, ([], 20))), (4, .inl (false, ([(2, 1)], 0))), (5, .inl (false, ([(3, 1)], 0)))], ([(1, (-22)), (3, (-1))], 483))])] = true := by decide +kernel
set_option maxRecDepth 100000 in
theorem kk_411 : b_chk r_hk q_D kc_I r_fp 3000 kc_411 [240] [kc_410] []
   [(24, [], [], [((5, [(0, (-2147483648), 2147483647), (1, (-1), 19), (2, (-1), 7), (3, (-1), 7), (4, 0, 20)], [], [], [(90, [([(4, 1)], 0)])]), [(0, .inr (.inl 93)), (1, .inl (false, ([(0, 1)], 0))), (2, .inl (false, ([(1, 1)], 0))), (3, .inl (false, ([(2, 1)], 0))), (4, .inl (false, ([(3, 1)], 0))), (5, .inl (false, ([(4, 1)], 0)))], ([(4, (-1))], 41))]),
    (59, [], [], [((6, [(0, (-2147483648), 2147483647), (1, (-1), 19), (2, (-1), 7), (3, (-1), 7), (4, (-2147483648), 2147483647), (5, 0, 20)], [], [], [(80, [([(5, 1)], 0)])]), [(0, .inr (.inl 93)), (1, .inl (false, ([(0, 1)], 0))), (2, .inl (false, ([(1, 1)], 0))), (3, .inl (false, ([(2, 1)], 0))), (4, .inl (false, ([(3, 1)], 0))), (5, .inl (false, ([(4, 1)], 0))), (6, .inl (false, ([(5, 1)], 0)))], ([(5, (-1))], 20))])] = true := by decide +kernel
set_option maxRecDepth 100000 in
theorem kk_412 : b_chk r_hk q_D kc_I r_fp 3000 kc_412 [249] [kc_405, kc_411] []
   [] = true := by decide +kernel
set_option maxRecDepth 100000 in
theorem kk_413 : b_chk r_hk q_D kc_I r_fp 3000 kc_413 [218, 242] [kc_405, kc_411] []
   [] = true := by decide +kernel
set_option maxRecDepth 100000 in
theorem kk_414 : b_chk r_hk q_D kc_I r_fp 3000 kc_414 [218, 239] [kc_405, kc_407] []
   [(39, [], [], [((4, [(0, 0, 19), (1, (-2147483648), 2147483647), (2, (-2147483648), 2147483647), (3, 0, 20)], [], [], []), [(0, .inr (.inl 93)), (1, .inl (false, ([(0, 1)], 0))), (2, .inl (false, ([(1, 1)], 0))), (3, .inl (false, ([(2, 1)], 0))), (4, .inl (false, ([(3, 1)], 0)))], ([(3, (-1))], 20))])] = true := by decide +kernel
set_option maxRecDepth 100000 in
theorem kk_415 : b_chk r_hk q_D kc_I r_fp 3000 kc_415 [218, 239] [kc_405, kc_411] []
   [] = true := by decide +kernel
set_option maxRecDepth 100000 in
theorem kk_416 : b_chk r_hk q_D kc_I r_fp 3000 kc_416 [218] [] []
   [] = true := by decide +kernel
set_option maxRecDepth 100000 in
theorem kk_417 : b_chk r_hk q_D kc_I r_fp 3000 kc_417 [240] [] []
   [] = true := by decide +kernel
set_option maxRecDepth 100000 in
theorem kk_418 : b_chk r_hk q_D kc_I r_fp 3000 kc_418 [240] [kc_417] []
   [(5, [], [], [((4, [(0, 0, 19), (1, (-2147483648), 2147483647), (2, (-2147483648), 2147483647), (3, 0, 20)], [], [], []), [(0, .inr (.inl 93)), (1, .inl (false, ([(0, 1)], 0))), (2, .inl (false, ([(1, 1)], 0))), (3, .inl (false, ([(2, 1)], 0))), (4, .inl (false, ([(3, 1)], 0)))], ([(3, (-1))], 20))])] = true := by decide +kernel

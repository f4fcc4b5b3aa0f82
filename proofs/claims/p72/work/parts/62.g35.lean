set_option maxRecDepth 100000 in
theorem kk_409 : b_chk r_hk q_D kc_I r_fp 3000 kc_409 [218, 239] [kc_399, kc_405] []
   [] = true := by decide +kernel
set_option maxRecDepth 100000 in
theorem kk_410 : b_chk r_hk q_D kc_I r_fp 3000 kc_410 [218] [] []
   [] = true := by decide +kernel
set_option maxRecDepth 100000 in
theorem kk_411 : b_chk r_hk q_D kc_I r_fp 3000 kc_411 [240] [] []
   [] = true := by decide +kernel
set_option maxRecDepth 100000 in
theorem kk_412 : b_chk r_hk q_D kc_I r_fp 3000 kc_412 [240] [kc_411] []
   [(5, [], [], [((4, [(0, 0, 19), (1, (-2147483648), 2147483647), (2, (-2147483648), 2147483647), (3, 0, 20)], [], [], []), [(0, .inr (.inl 93)), (1, .inl (false, ([(0, 1)], 0))), (2, .inl (false, ([(1, 1)], 0))), (3, .inl (false, ([(2, 1)], 0))), (4, .inl (false, ([(3, 1)], 0)))], ([(3, (-1))], 20))])] = true := by decide +kernel
set_option maxRecDepth 100000 in
theorem kk_413 : b_chk r_hk q_D kc_I r_fp 3000 kc_413 [240] [kc_412] []
   [(3, [], [], [((4, [(0, 0, 7), (1, (-2147483648), 2147483647), (2, (-2147483648), 2147483647), (3, 0, 20)], [], [], []), [(0, .inr (.inl 93)), (1, .inl (false, ([(0, 1)], 0))), (2, .inl (false, ([(1, 1)], 0))), (3, .inl (false, ([(2, 1)], 0))), (4, .inl (false, ([(3, 1)], 0)))], ([(3, (-1))], 20))])] = true := by decide +kernel
set_option maxRecDepth 100000 in
theorem kk_414 : b_chk r_hk q_D kc_I r_fp 3000 kc_414 [218, 242] [kc_410, kc_413] []
   [] = true := by decide +kernel
set_option maxRecDepth 100000 in
theorem kk_415 : b_chk r_hk q_D kc_I r_fp 3000 kc_415 [218, 239, 240] [kc_410, kc_412] []
   [] = true := by decide +kernel
set_option maxRecDepth 100000 in
theorem kk_416 : b_chk r_hk q_D kc_I r_fp 3000 kc_416 [249] [kc_410, kc_413] []
   [(31, [], [], [((4, [(0, (-2147483648), 2147483647), (1, (-2147483648), 2147483647), (2, 0, 1048575), (3, 0, 8)], [], [], []), [(0, .inr (.inl 93)), (1, .inl (false, ([(0, 1)], 0))), (2, .inl (false, ([(1, 1)], 0))), (3, .inl (false, ([(2, 1)], 0))), (4, .inl (false, ([(3, 1)], 0)))], ([(3, (-1))], 8))])] = true := by decide +kernel
set_option maxRecDepth 100000 in
theorem kk_417 : b_chk r_hk q_D kc_I r_fp 3000 kc_417 [240] [] []
   [(6, [], [], [((5, [(0, 0, 7), (1, 0, 1), (2, (-2147483648), 2147483647), (3, 0, 6), (4, 0, 20)], [], [], [(0, []), (30, [([(0, 1)], 0), ([(4, 1)], 0), ([(3, 1)], 0)])]), [(0, .inr (.inl 93)), (1, .inl (false, ([(0, 1)], 0))), (2, .inl (false, ([(1, 1)], 0))), (3, .inl (false, ([(2, 1)], 0))), (4, .inl (false, ([(3, 1)], 0))), (5, .inl (false, ([(4, 1)], 0)))], ([(4, (-7))], 153))]),
    (68, [(4, 6)], [], [((6, [(0, 0, 7), (1, 0, 1), (2, (-2147483648), 2147483647), (3, 0, 5), (4, 0, 19), (5, 0, 5)], [([(3, 1), (5, (-1))], 0)], [], [(0, []), (30, [([(0, 1)], 0), ([(4, 1)], 1), ([(3, 1)], 1)])]), [(0, .inr (.inl 93)), (1, .inl (false, ([(0, 1)], 0))), (2, .inl (false, ([(1, 1)], 0))), (3, .inl (false, ([(2, 1)], 0))), (4, .inl (false, ([(3, 1)], 0))), (5, .inl (false, ([(4, 1)], 0))), (6, .inl (false, ([(5, 1)], 0)))], ([(4, (-7)), (5, 1)], 147))]),
    (143, [], [], [((6, [(0, 0, 7), (1, 0, 1), (2, (-2147483648), 2147483647), (3, 0, 6), (4, (-2147483648), 2147483647), (5, 0, 6)], [], [], []), [(0, .inr (.inl 93)), (1, .inl (false, ([(0, 1)], 0))), (2, .inl (false, ([(1, 1)], 0))), (3, .inl (false, ([(2, 1)], 0))), (4, .inl (false, ([(3, 1)], 0))), (5, .inl (false, ([(4, 1)], 0))), (6, .inl (false, ([(5, 1)], 0)))], ([(5, (-1))], 6))])] = true := by decide +kernel
set_option maxRecDepth 100000 in
theorem kk_418 : b_chk r_hk q_D kc_I r_fp 3000 kc_418 [] [kc_417] []
   [] = true := by decide +kernel
set_option maxRecDepth 100000 in
theorem kk_419 : b_chk r_hk q_D kc_I r_fp 3000 kc_419 [218, 242] [kc_399, kc_418] []
   [] = true := by decide +kernel

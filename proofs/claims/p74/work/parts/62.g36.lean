set_option maxRecDepth 100000 in
theorem kk_419 : b_chk r_hk q_D kc_I r_fp 3000 kc_419 [240] [kc_418] []
   [(3, [], [], [((4, [(0, 0, 7), (1, (-2147483648), 2147483647), (2, (-2147483648), 2147483647), (3, 0, 20)], [], [], []), [(0, .inr (.inl 93)), (1, .inl (false, ([(0, 1)], 0))), (2, .inl (false, ([(1, 1)], 0))), (3, .inl (false, ([(2, 1)], 0))), (4, .inl (false, ([(3, 1)], 0)))], ([(3, (-1))], 20))])] = true := by decide +kernel
set_option maxRecDepth 100000 in
theorem kk_420 : b_chk r_hk q_D kc_I r_fp 3000 kc_420 [218, 242] [kc_416, kc_419] []
   [] = true := by decide +kernel
set_option maxRecDepth 100000 in
theorem kk_421 : b_chk r_hk q_D kc_I r_fp 3000 kc_421 [218, 239, 240] [kc_416, kc_418] []
   [] = true := by decide +kernel
set_option maxRecDepth 100000 in
theorem kk_422 : b_chk r_hk q_D kc_I r_fp 3000 kc_422 [249] [kc_416, kc_419] []
   [(31, [], [], [((4, [(0, (-2147483648), 2147483647), (1, (-2147483648), 2147483647), (2, 0, 1048575), (3, 0, 8)], [], [], []), [(0, .inr (.inl 93)), (1, .inl (false, ([(0, 1)], 0))), (2, .inl (false, ([(1, 1)], 0))), (3, .inl (false, ([(2, 1)], 0))), (4, .inl (false, ([(3, 1)], 0)))], ([(3, (-1))], 8))])] = true := by decide +kernel
set_option maxRecDepth 100000 in
theorem kk_423 : b_chk r_hk q_D kc_I r_fp 3000 kc_423 [240] [] []
   [(6, [], [], [((5, [(0, 0, 7), (1, 0, 1), (2, (-2147483648), 2147483647), (3, 0, 6), (4, 0, 20)], [], [], [(0, []), (30, [([(0, 1)], 0), ([(4, 1)], 0), ([(3, 1)], 0)])]), [(0, .inr (.inl 93)), (1, .inl (false, ([(0, 1)], 0))), (2, .inl (false, ([(1, 1)], 0))), (3, .inl (false, ([(2, 1)], 0))), (4, .inl (false, ([(3, 1)], 0))), (5, .inl (false, ([(4, 1)], 0)))], ([(4, (-7))], 153))]),
    (68, [(4, 6)], [], [((6, [(0, 0, 7), (1, 0, 1), (2, (-2147483648), 2147483647), (3, 0, 5), (4, 0, 19), (5, 0, 5)], [([(3, 1), (5, (-1))], 0)], [], [(0, []), (30, [([(0, 1)], 0), ([(4, 1)], 1), ([(3, 1)], 1)])]), [(0, .inr (.inl 93)), (1, .inl (false, ([(0, 1)], 0))), (2, .inl (false, ([(1, 1)], 0))), (3, .inl (false, ([(2, 1)], 0))), (4, .inl (false, ([(3, 1)], 0))), (5, .inl (false, ([(4, 1)], 0))), (6, .inl (false, ([(5, 1)], 0)))], ([(4, (-7)), (5, 1)], 147))]),
    (143, [], [], [((6, [(0, 0, 7), (1, 0, 1), (2, (-2147483648), 2147483647), (3, 0, 6), (4, (-2147483648), 2147483647), (5, 0, 6)], [], [], []), [(0, .inr (.inl 93)), (1, .inl (false, ([(0, 1)], 0))), (2, .inl (false, ([(1, 1)], 0))), (3, .inl (false, ([(2, 1)], 0))), (4, .inl (false, ([(3, 1)], 0))), (5, .inl (false, ([(4, 1)], 0))), (6, .inl (false, ([(5, 1)], 0)))], ([(5, (-1))], 6))])] = true := by decide +kernel
set_option maxRecDepth 100000 in
theorem kk_424 : b_chk r_hk q_D kc_I r_fp 3000 kc_424 [] [kc_423] []
   [] = true := by decide +kernel
set_option maxRecDepth 100000 in
theorem kk_425 : b_chk r_hk q_D kc_I r_fp 3000 kc_425 [218, 242] [kc_405, kc_424] []
   [] = true := by decide +kernel
set_option maxRecDepth 100000 in
theorem kk_426 : b_chk r_hk q_D kc_I r_fp 3000 kc_426 [218, 242] [kc_424] []
   [(17, [], [], [((3, [(0, 0, 7), (1, 0, 2147483647), (2, 0, 100)], [], [], [(0, [])]), [(0, .inr (.inl 93)), (1, .inl (false, ([(0, 1)], 0))), (2, .inl (false, ([(1, 1)], 0))), (3, .inl (false, ([(2, 1)], 0)))], ([(2, (-1))], 100))])] = true := by decide +kernel
set_option maxRecDepth 100000 in
theorem kk_427 : b_chk r_hk q_D kc_I r_fp 3000 kc_427 [81, 240] [kc_331, kc_335] []
   [(5, [], [], [((4, [(0, 0, 7), (1, (-2147483648), 2147483647), (2, 0, 2000000000), (3, 0, 20)], [], [], []), [(0, .inr (.inl 93)), (1, .inl (false, ([(0, 1)], 0))), (2, .inl (false, ([(1, 1)], 0))), (3, .inl (false, ([(2, 1)], 0))), (4, .inl (false, ([(3, 1)], 0)))], ([(3, (-1))], 20))])] = true := by decide +kernel
set_option maxRecDepth 100000 in
theorem kk_428 : b_chk r_hk q_D kc_I r_fp 3000 kc_428 [249] [kc_334, kc_427] []
   [(21, [], [], [((3, [(0, (-2147483648), 2147483647), (1, (-2147483648), 2147483647), (2, 0, 8)], [], [], []), [(0, .inr (.inl 93)), (1, .inl (false, ([(0, 1)], 0))), (2, .inl (false, ([(1, 1)], 0))), (3, .inl (false, ([(2, 1)], 0)))], ([(2, (-1))], 8))])] = true := by decide +kernel
set_option maxRecDepth 100000 in
theorem kk_429 : b_chk r_hk q_D kc_I r_fp 3000 kc_429 [249] [kc_163, kc_334, kc_427, kc_320, kc_321] []
   [(24, [], [], [((4, [(0, (-2147483648), 2147483647), (1, (-1), 7), (2, 0, 2147483647), (3, 0, 8)], [], [], []), [(0, .inr (.inl 93)), (1, .inl (false, ([(0, 1)], 0))), (2, .inl (false, ([(1, 1)], 0))), (3, .inl (false, ([(2, 1)], 0))), (4, .inl (false, ([(3, 1)], 0)))], ([(3, (-1))], 8))])] = true := by decide +kernel

set_option maxRecDepth 100000 in
theorem kk_441 : b_chk r_hk q_D kc_I r_fp 3000 kc_441 [21, 81, 218, 240, 242] [] []
   [(18, [], [], [((4, [(0, 0, 7), (1, (-2147483648), 2147483647), (2, (-1), 2147483647), (3, 0, 20)], [], [], []), [(0, .inr (.inl 93)), (1, .inl (false, ([(0, 1)], 0))), (2, .inl (false, ([(1, 1)], 0))), (3, .inl (false, ([(2, 1)], 0))), (4, .inl (false, ([(3, 1)], 0)))], ([(3, (-1))], 20))])] = true := by decide +kernel
set_option maxRecDepth 100000 in
theorem kk_442 : b_chk r_hk q_D kc_I r_fp 3000 kc_442 [218, 240, 252] [kc_331, kc_332] []
   [(16, [], [], [((3, [(0, 0, 5), (1, (-2147483648), 2147483647), (2, 0, 20)], [], [], []), [(0, .inr (.inl 93)), (1, .inl (false, ([(0, 1)], 0))), (2, .inl (false, ([(1, 1)], 0))), (3, .inl (false, ([(2, 1)], 0)))], ([(2, (-21))], 440))]),
    (29, [], [], [((4, [(0, 0, 5), (1, (-2147483648), 2147483647), (2, 0, 19), (3, 0, 19)], [], [], []), [(0, .inr (.inl 93)), (1, .inl (false, ([(0, 1)], 0))), (2, .inl (false, ([(1, 1)], 0))), (3, .inl (false, ([(2, 1)], 0))), (4, .inl (false, ([(3, 1)], 0)))], ([(2, (-21)), (3, (-1))], 439))])] = true := by decide +kernel
set_option maxRecDepth 100000 in
theorem kk_443 : b_chk r_hk q_D kc_I r_fp 3000 kc_443 [218, 239] [kc_323, kc_331, kc_334, kc_335] []
   [] = true := by decide +kernel
set_option maxRecDepth 100000 in
theorem kk_444 : b_chk r_hk q_D kc_I r_fp 3000 kc_444 [] [kc_325, kc_326] []
   [(18, [], [], [((4, [(0, 0, 19), (1, (-2147483648), 2147483647), (2, 0, 61), (3, 0, 20)], [([(2, (-1)), (3, 2)], 2)], [], []), [(0, .inr (.inl 93)), (1, .inl (false, ([(0, 1)], 0))), (2, .inl (false, ([(1, 1)], 0))), (3, .inl (false, ([(2, 1)], 0))), (4, .inl (false, ([(3, 1)], 0)))], ([(3, (-1))], 20))])] = true := by decide +kernel
set_option maxRecDepth 100000 in
theorem kk_445 : b_chk r_hk q_D kc_I r_fp 3000 kc_445 [21] [kc_331, kc_444] []
   [(2, [], [], [((2, [(0, (-2147483648), 2147483647), (1, 0, 6720)], [], [], []), [(0, .inr (.inl 93)), (1, .inl (false, ([(0, 1)], 0))), (2, .inl (false, ([(1, 1)], 0)))], ([(1, (-1))], 148743))]),
    (36, [], [], [((2, [(0, (-2147483648), 2147483647), (1, 0, 20)], [], [], []), [(0, .inr (.inl 93)), (1, .inl (false, ([(0, 1)], 0))), (2, .inl (false, ([(1, 1)], 0)))], ([(1, (-6763))], 142022))]),
    (68, [], [], [((4, [(0, (-2147483648), 2147483647), (1, 0, 19), (2, 0, 42), (3, 0, 20)], [], [], []), [(0, .inr (.inl 93)), (1, .inl (false, ([(0, 1)], 0))), (2, .inl (false, ([(1, 1)], 0))), (3, .inl (false, ([(2, 1)], 0))), (4, .inl (false, ([(3, 1)], 0)))], ([(1, (-6763)), (3, 322)], 135581))]),
    (78, [], [], [((5, [(0, (-2147483648), 2147483647), (1, 0, 19), (2, 0, 42), (3, 1, 20), (4, (-1), 319)], [], [], []), [(0, .inr (.inl 93)), (1, .inl (false, ([(0, 1)], 0))), (2, .inl (false, ([(1, 1)], 0))), (3, .inl (false, ([(2, 1)], 0))), (4, .inl (false, ([(3, 1)], 0))), (5, .inl (false, ([(4, 1)], 0)))], ([(1, (-6763)), (3, 322), (4, 1)], 135261))])] = true := by decide +kernel
set_option maxRecDepth 100000 in
theorem kk_446 : b_chk r_hk q_D kc_I r_fp 3000 kc_446 [218, 249] [kc_163, kc_334, kc_337, kc_445] []
   [(55, [], [], [((6, [(0, 0, 20), (1, (-2147483648), 2147483647), (2, 0, 1), (3, (-2147483648), 2147483647), (4, (-2147483648), 2147483647), (5, 0, 320)], [], [], []), [(0, .inr (.inl 93)), (1, .inl (false, ([(0, 1)], 0))), (2, .inl (false, ([(1, 1)], 0))), (3, .inl (false, ([(2, 1)], 0))), (4, .inl (false, ([(3, 1)], 0))), (5, .inl (false, ([(4, 1)], 0))), (6, .inl (false, ([(5, 1)], 0)))], ([(5, (-1))], 320))])] = true := by decide +kernel
set_option maxRecDepth 100000 in
theorem kk_447 : b_chk r_hk q_D kc_I r_fp 3000 kc_447 [249] [kc_334, kc_337, kc_445] []
   [(30, [], [], [((3, [(0, (-2147483648), 2147483647), (1, 0, 20), (2, 0, 21)], [], [], []), [(0, .inr (.inl 93)), (1, .inl (false, ([(0, 1)], 0))), (2, .inl (false, ([(1, 1)], 0))), (3, .inl (false, ([(2, 1)], 0)))], ([(2, (-1))], 21))])] = true := by decide +kernel
set_option maxRecDepth 100000 in
theorem kk_448 : b_chk r_hk q_D kc_I r_fp 3000 kc_448 [240] [] []
   [] = true := by decide +kernel
set_option maxRecDepth 100000 in
theorem kk_449 : b_chk r_hk q_D kc_I r_fp 3000 kc_449 [218, 239, 240] [kc_323, kc_334, kc_335, kc_448] []
   [] = true := by decide +kernel
set_option maxRecDepth 100000 in
theorem kk_450 : b_chk r_hk q_D kc_I r_fp 3000 kc_450 [218, 249] [] []
   [] = true := by decide +kernel
set_option maxRecDepth 100000 in
theorem kk_451 : b_chk r_hk q_D kc_I r_fp 3000 kc_451 [] [] []
   [] = true := by decide +kernel

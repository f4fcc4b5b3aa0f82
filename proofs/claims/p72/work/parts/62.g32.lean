set_option maxRecDepth 100000 in
theorem kk_374 : b_chk r_hk q_D kc_I r_fp 3000 kc_374 [] [kc_372, kc_373] []
   [(9, [], [], [((2, [(0, 1, 1024), (1, 1, 1024)], [], [], [(905, [([(0, 1)], 0)])]), [(0, .inr (.inl 93)), (1, .inl (false, ([(0, 1)], 0))), (2, .inl (false, ([(1, 1)], 0)))], ([(1, (-1))], 5000000))]),
    (33, [], [], [((2, [(0, 1, 1024), (1, 0, 1024)], [], [], []), [(0, .inr (.inl 93)), (1, .inl (false, ([(0, 1)], 0))), (2, .inl (false, ([(1, 1)], 0)))], ([(1, (-3000))], 3074999))]),
    (40, [], [], [((3, [(0, 1, 1024), (1, 0, 1023), (2, 0, 11)], [], [], []), [(0, .inr (.inl 93)), (1, .inl (false, ([(0, 1)], 0))), (2, .inl (false, ([(1, 1)], 0))), (3, .inl (false, ([(2, 1)], 0)))], ([(1, (-3000)), (2, (-1))], 3074900))]),
    (108, [(2, 1), (3, 11)], [], [((2, [(0, 1, 1024), (1, 0, 10)], [], [], []), [(0, .inr (.inl 93)), (1, .inl (false, ([(0, 1)], 0))), (2, .inl (false, ([], 0))), (3, .inl (false, ([(1, 1)], 0)))], ([(1, (-1))], 3074000)), ((3, [(0, 1, 1024), (1, 1, 1023), (2, 0, 10)], [], [], [(902, [([(1, 1)], 0), ([(2, 1)], 0)])]), [(0, .inr (.inl 93)), (1, .inl (false, ([(0, 1)], 0))), (2, .inl (false, ([(1, 1)], 0))), (3, .inl (false, ([(2, 1)], 0)))], ([(1, (-3000)), (2, (-1))], 3074000))]),
    (129, [(4, 1), (3, 10)], [], [((3, [(0, 1, 1024), (1, 0, 1023), (2, 0, 9)], [], [], []), [(0, .inr (.inl 93)), (1, .inl (false, ([(0, 1)], 0))), (2, .inl (false, ([(1, 1)], 0))), (3, .inl (false, ([(2, 1)], 0))), (4, .inl (false, ([], 0)))], ([(1, (-3000))], 3072000)), ((1, [(0, 1, 1024)], [], [], []), [(0, .inr (.inl 93)), (1, .inl (false, ([(0, 1)], 0))), (2, .inl (false, ([], 0))), (3, .inl (false, ([], 10))), (4, .inl (false, ([], 0)))], ([], 3072000)), ((4, [(0, 1, 1024), (1, 1, 1023), (2, 0, 9), (3, 1, 1023)], [], [], []), [(0, .inr (.inl 93)), (1, .inl (false, ([(0, 1)], 0))), (2, .inl (false, ([(1, 1)], 0))), (3, .inl (false, ([(2, 1)], 0))), (4, .inl (false, ([(3, 1)], 0)))], ([(1, (-3000)), (3, 1)], 3072000))])] = true := by decide +kernel
set_option maxRecDepth 100000 in
theorem kk_375 : b_chk r_hk q_D kc_I r_fp 3000 kc_375 [] [kc_371, kc_374] []
   [] = true := by decide +kernel
set_option maxRecDepth 100000 in
theorem kk_376 : b_chk r_hk q_D kc_I r_fp 3000 kc_376 [] [] []
   [] = true := by decide +kernel
set_option maxRecDepth 100000 in
theorem kk_377 : b_chk r_hk q_D kc_I r_fp 3000 kc_377 [] [kc_376] []
   [(4, [], [], [((2, [(0, (-2147483648), 2147483647), (1, 0, 11)], [], [], []), [(0, .inr (.inl 93)), (1, .inl (false, ([(0, 1)], 0))), (2, .inl (false, ([(1, 1)], 0)))], ([(1, (-1))], 11))])] = true := by decide +kernel
set_option maxRecDepth 100000 in
theorem kk_378 : b_chk r_hk q_D kc_I r_fp 3000 kc_378 [] [kc_375, kc_377] []
   [] = true := by decide +kernel
set_option maxRecDepth 100000 in
theorem kk_379 : b_chk r_hk q_D kc_I r_fp 3000 kc_379 [218] [kc_375, kc_376] []
   [] = true := by decide +kernel
set_option maxRecDepth 100000 in
theorem kk_381 : b_chk r_hk q_D kc_I r_fp 3000 kc_381 [218] [kc_374, kc_375, kc_377] []
   [] = true := by decide +kernel
set_option maxRecDepth 100000 in
theorem kk_382 : b_chk r_hk q_D kc_I r_fp 3000 kc_382 [218] [kc_375] []
   [] = true := by decide +kernel
set_option maxRecDepth 100000 in
theorem kk_383 : b_chk r_hk q_D kc_I r_fp 3000 kc_383 [] [kc_371] []
   [(18, [], [], [((3, [(0, (-2147483648), 2147483647), (1, (-2147483648), 2147483647), (2, 0, 10)], [], [], []), [(0, .inr (.inl 93)), (1, .inl (false, ([(0, 1)], 0))), (2, .inl (false, ([], 0))), (3, .inl (false, ([(1, 1)], 0))), (4, .inl (false, ([(2, 1)], 0)))], ([(2, (-11))], 120))]),
    (33, [], [], [((5, [(0, (-2147483648), 2147483647), (1, (-2147483648), 2147483647), (2, 0, 9), (3, 0, 1), (4, 0, 9)], [], [], []), [(0, .inr (.inl 93)), (1, .inl (false, ([(0, 1)], 0))), (2, .inl (false, ([], 0))), (3, .inl (false, ([(1, 1)], 0))), (4, .inl (false, ([(2, 1)], 0))), (5, .inl (false, ([(3, 1)], 0))), (6, .inl (false, ([(4, 1)], 0)))], ([(2, (-11)), (4, (-1))], 119))])] = true := by decide +kernel
set_option maxRecDepth 100000 in
theorem kk_384 : b_chk r_hk q_D kc_I r_fp 3000 kc_384 [218, 239, 249, 252, 294, 295] [] []
   [] = true := by decide +kernel
set_option maxRecDepth 100000 in
theorem kk_385 : b_chk r_hk q_D kc_I r_fp 3000 kc_385 [218, 239, 249, 252, 294, 295] [] []
   [] = true := by decide +kernel

set_option maxRecDepth 100000 in
theorem kk_0 : b_chk r_hk q_D kc_I r_fp 3000 kc_0 [] [] []
   [(3, [], [], [((2, [(0, (-2147483648), 2147483647), (1, (-8), 24)], [], [], []), [(0, .inr (.inl 1)), (1, .inl (false, ([(0, 1)], 0))), (2, .inl (false, ([(1, 1)], 0)))], ([(1, 1)], 8))])] = true := by decide +kernel
set_option maxRecDepth 100000 in
theorem kk_1 : b_chk r_hk q_D kc_I r_fp 3000 kc_1 [11] [kc_0] []
   [] = true := by decide +kernel
set_option maxRecDepth 100000 in
theorem kk_2 : b_chk r_hk q_D kc_I r_fp 3000 kc_2 [] [] []
   [] = true := by decide +kernel
set_option maxRecDepth 100000 in
theorem kk_3 : b_chk r_hk q_D kc_I r_fp 3000 kc_3 [] [] []
   [(5, [], [], [((1, [(0, 0, 120)], [], [], []), [(0, .inr (.inl 27)), (1, .inl (false, ([], 0))), (2, .inl (false, ([(0, 1)], 0))), (3, .inl (false, ([], 120)))], ([(0, (-1))], 120))])] = true := by decide +kernel
set_option maxRecDepth 100000 in
theorem kk_4 : b_chk r_hk q_D kc_I r_fp 3000 kc_4 [] [kc_3] []
   [] = true := by decide +kernel
set_option maxRecDepth 100000 in
theorem kk_5 : b_chk r_hk q_D kc_I r_fp 3000 kc_5 [] [] []
   [] = true := by decide +kernel
set_option maxRecDepth 100000 in
theorem kk_6 : b_chk r_hk q_D kc_I r_fp 3000 kc_6 [] [] []
   [] = true := by decide +kernel
set_option maxRecDepth 100000 in
theorem kk_7 : b_chk r_hk q_D kc_I r_fp 3000 kc_7 [21] [kc_5, kc_6] []
   [(0, [], [(3, 1)], [((1, [(0, 1, 1200)], [], [(3, ([], 1), (false, ([(0, 1)], 0)))], []), [(0, .inr (.inl 3))], ([(0, (-1))], 2401))]),
    (92, [], [(3, 1)], [((2, [(0, 0, 1), (1, 0, 1200)], [], [(3, ([], 1), (false, ([(1, 1)], 0)))], []), [(0, .inr (.inl 3)), (1, .inl (false, ([(0, 1)], 0)))], ([(1, (-1))], 1200))])] = true := by decide +kernel
set_option maxRecDepth 100000 in
theorem kk_8 : b_chk r_hk q_D kc_I r_fp 3000 kc_8 [] [] []
   [(28, [], [(3, 1), (3, 2)], [((3, [(0, 0, 6), (1, 6, 1200), (2, 0, 1194)], [([(1, 1), (2, (-1))], (-6))], [(3, ([], 1), (false, ([(1, 1)], 0))), (3, ([], 2), (false, ([(2, 1)], 0)))], []), [(0, .inr (.inl 3)), (1, .inr (.inr 7)), (2, .inl (false, ([(0, 1)], 0)))], ([(0, (-1))], 6))])] = true := by decide +kernel
set_option maxRecDepth 100000 in
theorem kk_9 : b_chk r_hk q_D kc_I r_fp 3000 kc_9 [26] [kc_7, kc_8] []
   [] = true := by decide +kernel
set_option maxRecDepth 100000 in
theorem kk_10 : b_chk r_hk q_D kc_I r_fp 3000 kc_10 [] [] []
   [(28, [], [(3, 1), (3, 2)], [((3, [(0, 0, 2), (1, 2, 1200), (2, 0, 1198)], [([(1, 1), (2, (-1))], (-2))], [(3, ([], 1), (false, ([(1, 1)], 0))), (3, ([], 2), (false, ([(2, 1)], 0)))], []), [(0, .inr (.inl 3)), (1, .inr (.inr 8)), (2, .inl (false, ([(0, 1)], 0)))], ([(0, (-1))], 2))])] = true := by decide +kernel

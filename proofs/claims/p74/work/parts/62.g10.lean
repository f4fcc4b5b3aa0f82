set_option maxRecDepth 100000 in
theorem kk_110 : b_chk r_hk q_D kc_I r_fp 3000 kc_110 [21] [kc_109] []
   [(17, [], [], [((1, [(0, 0, 10)], [], [], []), [(0, .inr (.inl 36)), (1, .inr (.inl 85)), (2, .inl (false, ([(0, 1)], 0)))], ([(0, (-1))], 10))])] = true := by decide +kernel
set_option maxRecDepth 100000 in
theorem kk_111 : b_chk r_hk q_D kc_I r_fp 3000 kc_111 [21] [kc_109] []
   [(17, [], [], [((1, [(0, 0, 10)], [], [], []), [(0, .inr (.inl 36)), (1, .inr (.inl 87)), (2, .inl (false, ([(0, 1)], 0)))], ([(0, (-1))], 10))])] = true := by decide +kernel
set_option maxRecDepth 100000 in
theorem kk_112 : b_chk r_hk q_D kc_I r_fp 3000 kc_112 [21] [kc_109] []
   [(17, [], [], [((1, [(0, 0, 10)], [], [], []), [(0, .inr (.inl 36)), (1, .inr (.inl 89)), (2, .inl (false, ([(0, 1)], 0)))], ([(0, (-1))], 10))])] = true := by decide +kernel
set_option maxRecDepth 100000 in
theorem kk_113 : b_chk r_hk q_D kc_I r_fp 3000 kc_113 [21] [kc_109] []
   [(17, [], [], [((1, [(0, 0, 10)], [], [], []), [(0, .inr (.inl 36)), (1, .inr (.inl 91)), (2, .inl (false, ([(0, 1)], 0)))], ([(0, (-1))], 10))])] = true := by decide +kernel
set_option maxRecDepth 100000 in
theorem kk_114 : b_chk r_hk q_D kc_I r_fp 3000 kc_114 [] [] []
   [] = true := by decide +kernel
set_option maxRecDepth 100000 in
theorem kk_115 : b_chk r_hk q_D kc_I r_fp 3000 kc_115 [] [kc_114] []
   [(2, [], [], [((2, [(0, 0, 9), (1, 0, 9)], [], [], []), [(0, .inr (.inl 36)), (1, .inl (false, ([(0, 1)], 0))), (2, .inl (false, ([(1, 1)], 0)))], ([(1, (-1))], 9))])] = true := by decide +kernel
set_option maxRecDepth 100000 in
theorem kk_116 : b_chk r_hk q_D kc_I r_fp 3000 kc_116 [] [kc_114] []
   [(5, [], [], [((4, [(0, 0, 9), (1, 0, 1), (2, 0, 10), (3, 0, 10)], [([(2, (-1)), (3, 1)], 0)], [], []), [(0, .inr (.inl 36)), (1, .inl (false, ([(0, 1)], 0))), (2, .inl (false, ([(1, 1)], 0))), (3, .inl (false, ([(2, 1)], 0))), (4, .inl (false, ([(3, 1)], 0)))], ([(3, (-1))], 10))])] = true := by decide +kernel
set_option maxRecDepth 100000 in
theorem kk_117 : b_chk r_hk q_D kc_I r_fp 3000 kc_117 [] [] []
   [(4, [], [], [((4, [(0, 0, 10), (1, 0, 10), (2, (-2147483648), 2147483647), (3, 0, 10)], [], [], []), [(0, .inl (false, ([(0, 1)], 0))), (1, .inl (false, ([(1, 1)], 0))), (2, .inl (false, ([(2, 1)], 0))), (3, .inl (false, ([(3, 1)], 0)))], ([(3, (-1))], 10))])] = true := by decide +kernel
set_option maxRecDepth 100000 in
theorem kk_118 : b_chk r_hk q_D kc_I r_fp 3000 kc_118 [152] [kc_117] []
   [(6, [], [], [((8, [(0, 0, 9), (1, (-2), 10), (2, (-2), 10), (3, 0, 2), (4, 0, 2), (5, 1, 10), (6, (-2147483648), 2147483647), (7, 0, 11)], [], [], []), [(0, .inr (.inl 36)), (1, .inl (false, ([(0, 1)], 0))), (2, .inl (false, ([(1, 1)], 0))), (3, .inl (false, ([(2, 1)], 0))), (4, .inl (false, ([(3, 1)], 0))), (5, .inl (false, ([(4, 1)], 0))), (6, .inl (false, ([(5, 1)], 0))), (7, .inl (false, ([(6, 1)], 0))), (8, .inl (false, ([(7, 1)], 0)))], ([(7, (-13))], 155))]),
    (29, [], [], [((9, [(0, 0, 9), (1, 0, 10), (2, (-2), 10), (3, 0, 2), (4, 0, 2), (5, 1, 10), (6, (-2147483648), 2147483647), (7, 0, 10), (8, 0, 11)], [([(1, 1), (7, (-1))], 0)], [], []), [(0, .inr (.inl 36)), (1, .inl (false, ([(0, 1)], 0))), (2, .inl (false, ([(1, 1)], 0))), (3, .inl (false, ([(2, 1)], 0))), (4, .inl (false, ([(3, 1)], 0))), (5, .inl (false, ([(4, 1)], 0))), (6, .inl (false, ([(5, 1)], 0))), (7, .inl (false, ([(6, 1)], 0))), (8, .inl (false, ([(7, 1)], 0))), (9, .inl (false, ([(8, 1)], 0)))], ([(7, (-13)), (8, (-1))], 154))])] = true := by decide +kernel
set_option maxRecDepth 100000 in
theorem kk_119 : b_chk r_hk q_D kc_I r_fp 3000 kc_119 [] [kc_118] []
   [] = true := by decide +kernel
set_option maxRecDepth 100000 in
theorem kk_120 : b_chk r_hk q_D kc_I r_fp 3000 kc_120 [152] [kc_116, kc_119] []
   [(17, [], [], [((4, [(0, 0, 9), (1, 0, 10), (2, 0, 10), (3, 0, 11)], [], [], []), [(0, .inr (.inl 36)), (1, .inl (false, ([(0, 1)], 0))), (2, .inl (false, ([(1, 1)], 0))), (3, .inl (false, ([(2, 1)], 0))), (4, .inl (false, ([(3, 1)], 0)))], ([(3, (-145))], 1739))]),
    (26, [], [], [((5, [(0, 0, 9), (1, 0, 10), (2, 0, 10), (3, 0, 10), (4, 0, 11)], [], [], []), [(0, .inr (.inl 36)), (1, .inl (false, ([(0, 1)], 0))), (2, .inl (false, ([(1, 1)], 0))), (3, .inl (false, ([(2, 1)], 0))), (4, .inl (false, ([(3, 1)], 0))), (5, .inl (false, ([(4, 1)], 0)))], ([(3, (-145)), (4, (-12))], 1738))]),
    (61, [], [], [((6, [(0, 0, 9), (1, 0, 10), (2, 0, 10), (3, 0, 10), (4, 0, 10), (5, 1, 11)], [], [], []), [(0, .inr (.inl 36)), (1, .inl (false, ([(0, 1)], 0))), (2, .inl (false, ([(1, 1)], 0))), (3, .inl (false, ([(2, 1)], 0))), (4, .inl (false, ([(3, 1)], 0))), (5, .inl (false, ([(4, 1)], 0))), (6, .inl (false, ([(5, 1)], 0)))], ([(3, (-145)), (4, (-12)), (5, (-1))], 1738))])] = true := by decide +kernel

set_option maxRecDepth 100000 in
theorem kk_77 : b_chk r_hk q_D kc_I r_fp 3000 kc_77 [] [] []
   [(9, [], [], [((5, [(0, (-9223372036854775808), 9223372036854775807), (1, (-9223372036854775808), 9223372036854775807), (2, (-9223372036854775808), 9223372036854775807), (3, (-9223372036854775808), 9223372036854775807), (4, 0, 100)], [], [], []), [(0, .inl (true, ([(0, 1)], 0))), (2, .inl (true, ([(1, 1)], 0))), (4, .inl (true, ([(2, 1)], 0))), (6, .inl (true, ([(3, 1)], 0))), (8, .inl (false, ([(4, 1)], 0)))], ([(4, (-1))], 100))])] = true := by decide +kernel
set_option maxRecDepth 100000 in
theorem kk_78 : b_chk r_hk q_D kc_I r_fp 3000 kc_78 [] [kc_77] []
   [] = true := by decide +kernel
set_option maxRecDepth 100000 in
theorem kk_79 : b_chk r_hk q_D kc_I r_fp 3000 kc_79 [53] [kc_55, kc_57, kc_75, kc_76, kc_78] []
   [(47, [], [], [((5, [(0, 0, 5), (1, (-2147483648), 2147483647), (2, 1, 63), (3, (-9223372036854775808), 9223372036854775807), (4, 0, 8)], [], [], []), [(0, .inr (.inl 0)), (1, .inl (false, ([(0, 1)], 0))), (2, .inl (false, ([(1, 1)], 0))), (3, .inl (false, ([(2, 1)], 0))), (4, .inl (true, ([(3, 1)], 0))), (6, .inl (false, ([(4, 1)], 0)))], ([(4, (-1))], 8))])] = true := by decide +kernel
set_option maxRecDepth 100000 in
theorem kk_80 : b_chk r_hk q_D kc_I r_fp 3000 kc_80 [53] [kc_58, kc_75, kc_76, kc_78] []
   [(30, [], [], [((5, [(0, 0, 5), (1, (-2147483648), 2147483647), (2, (-9223372036854775808), 9223372036854775807), (3, (-9223372036854775808), 9223372036854775807), (4, 0, 8)], [], [], []), [(0, .inr (.inl 0)), (1, .inl (false, ([(0, 1)], 0))), (2, .inl (false, ([(1, 1)], 0))), (3, .inl (true, ([(2, 1)], 0))), (5, .inl (true, ([(3, 1)], 0))), (7, .inl (false, ([(4, 1)], 0)))], ([(4, (-1))], 8))])] = true := by decide +kernel
set_option maxRecDepth 100000 in
theorem kk_81 : b_chk r_hk q_D kc_I r_fp 3000 kc_81 [51] [kc_68, kc_73, kc_75, kc_78] []
   [] = true := by decide +kernel
set_option maxRecDepth 100000 in
theorem kk_82 : b_chk r_hk q_D kc_I r_fp 3000 kc_82 [51] [kc_52, kc_58] []
   [(17, [], [], [((2, [(0, 0, 1048575), (1, 0, 8)], [], [], []), [(0, .inr (.inl 0)), (1, .inl (false, ([(0, 1)], 0))), (2, .inl (false, ([(1, 1)], 0)))], ([(1, (-1))], 8))])] = true := by decide +kernel
set_option maxRecDepth 100000 in
theorem kk_83 : b_chk r_hk q_D kc_I r_fp 3000 kc_83 [] [kc_53] []
   [(5, [], [], [((4, [(0, (-2147483648), 2147483647), (1, (-2147483648), 2147483647), (2, (-2147483648), 2147483647), (3, 0, 20)], [], [], []), [(0, .inr (.inl 4)), (1, .inl (false, ([(0, 1)], 0))), (2, .inl (false, ([(1, 1)], 0))), (3, .inl (false, ([(2, 1)], 0))), (4, .inl (false, ([(3, 1)], 0)))], ([(3, (-1))], 20))])] = true := by decide +kernel
set_option maxRecDepth 100000 in
theorem kk_84 : b_chk r_hk q_D kc_I r_fp 3000 kc_84 [] [kc_83] []
   [] = true := by decide +kernel
set_option maxRecDepth 100000 in
theorem kk_85 : b_chk r_hk q_D kc_I r_fp 3000 kc_85 [42] [kc_69, kc_84] []
   [(16, [], [], [((2, [(0, 0, 7), (1, 0, 31)], [], [], []), [(0, .inr (.inl 0)), (1, .inl (false, ([(0, 1)], 0))), (2, .inl (false, ([(1, 1)], 0)))], ([(1, (-1))], 31))])] = true := by decide +kernel
set_option maxRecDepth 100000 in
theorem kk_86 : b_chk r_hk q_D kc_I r_fp 3000 kc_86 [51] [kc_57, kc_75, kc_84] []
   [(27, [], [], [((4, [(0, (-2147483648), 2147483647), (1, (-1), 63), (2, 0, 30), (3, 0, 31)], [], [], []), [(0, .inr (.inl 0)), (1, .inl (false, ([(0, 1)], 0))), (2, .inl (false, ([(1, 1)], 0))), (3, .inl (false, ([(2, 1)], 0))), (4, .inl (false, ([(3, 1)], 0)))], ([(3, (-1))], 31))])] = true := by decide +kernel
set_option maxRecDepth 100000 in
theorem kk_87 : b_chk r_hk q_D kc_I r_fp 3000 kc_87 [] [kc_51] []
   [] = true := by decide +kernel

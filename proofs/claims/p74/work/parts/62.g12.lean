set_option maxRecDepth 100000 in
theorem kk_132 : b_chk r_hk q_D kc_I r_fp 3000 kc_132 [] [kc_124] []
   [(8, [], [], [((2, [(0, (-2147483648), 2147483647), (1, 0, 11)], [], [], []), [(0, .inr (.inl 36)), (1, .inl (false, ([(0, 1)], 0))), (2, .inl (false, ([(1, 1)], 0)))], ([(1, (-1))], 11))])] = true := by decide +kernel
set_option maxRecDepth 100000 in
theorem kk_133 : b_chk r_hk q_D kc_I r_fp 3000 kc_133 [51, 140, 141, 142, 143] [kc_75, kc_78, kc_110, kc_111, kc_112, kc_113, kc_128, kc_132] []
   [] = true := by decide +kernel
set_option maxRecDepth 100000 in
theorem kk_134 : b_chk r_hk q_D kc_I r_fp 3000 kc_134 [] [kc_116, kc_118] []
   [(46, [], [], [((8, [(0, 0, 9), (1, 0, 9), (2, 0, 2), (3, 0, 2), (4, (-2), 10), (5, (-2), 10), (6, (-2147483648), 2147483647), (7, 1, 11)], [], [], []), [(0, .inr (.inl 36)), (1, .inl (false, ([(0, 1)], 0))), (2, .inl (false, ([(1, 1)], 0))), (3, .inl (false, ([(2, 1)], 0))), (4, .inl (false, ([(3, 1)], 0))), (5, .inl (false, ([(4, 1)], 0))), (6, .inl (false, ([(5, 1)], 0))), (7, .inl (false, ([(6, 1)], 0))), (8, .inl (false, ([(7, 1)], 0)))], ([(7, (-1))], 11))])] = true := by decide +kernel
set_option maxRecDepth 100000 in
theorem kk_135 : b_chk r_hk q_D kc_I r_fp 3000 kc_135 [] [kc_121] []
   [(4, [], [], [((3, [(0, 0, 9), (1, (-2147483648), 2147483647), (2, 0, 11)], [], [], []), [(0, .inr (.inl 36)), (1, .inl (false, ([(0, 1)], 0))), (2, .inl (false, ([(1, 1)], 0))), (3, .inl (false, ([(2, 1)], 0)))], ([(2, (-1))], 11))])] = true := by decide +kernel
set_option maxRecDepth 100000 in
theorem kk_136 : b_chk r_hk q_D kc_I r_fp 3000 kc_136 [] [kc_114, kc_115, kc_120, kc_134, kc_135] []
   [(16, [], [], [((4, [(0, 0, 9), (1, 0, 9), (2, (-2147483648), 2147483647), (3, 0, 10)], [], [], []), [(0, .inr (.inl 36)), (1, .inl (false, ([(0, 1)], 0))), (2, .inl (false, ([(1, 1)], 0))), (3, .inl (false, ([(2, 1)], 0))), (4, .inl (false, ([(3, 1)], 0)))], ([(3, (-1))], 10))])] = true := by decide +kernel
set_option maxRecDepth 100000 in
theorem kk_137 : b_chk r_hk q_D kc_I r_fp 3000 kc_137 [51, 140, 141, 142, 143] [kc_110, kc_111, kc_112, kc_113, kc_136] []
   [] = true := by decide +kernel
set_option maxRecDepth 100000 in
theorem kk_138 : b_chk r_hk q_D kc_I r_fp 3000 kc_138 [] [kc_121] []
   [(2, [], [], [((2, [(0, 0, 9), (1, 0, 10)], [], [], []), [(0, .inr (.inl 36)), (1, .inl (false, ([(0, 1)], 0))), (2, .inl (false, ([(1, 1)], 0)))], ([(1, (-1))], 10))])] = true := by decide +kernel
set_option maxRecDepth 100000 in
theorem kk_139 : b_chk r_hk q_D kc_I r_fp 3000 kc_139 [] [kc_115, kc_120, kc_138] []
   [(4, [], [], [((2, [(0, (-2147483648), 2147483647), (1, 0, 10)], [], [], []), [(0, .inr (.inl 36)), (1, .inl (false, ([(0, 1)], 0))), (2, .inl (false, ([(1, 1)], 0)))], ([(1, (-1))], 10))])] = true := by decide +kernel
set_option maxRecDepth 100000 in
theorem kk_140 : b_chk r_hk q_D kc_I r_fp 3000 kc_140 [] [] []
   [(4, [], [], [((2, [(0, (-2147483648), 2147483647), (1, 0, 10)], [], [], []), [(0, .inr (.inl 36)), (1, .inl (false, ([(0, 1)], 0))), (2, .inl (false, ([(1, 1)], 0)))], ([(1, (-1))], 10))])] = true := by decide +kernel
set_option maxRecDepth 100000 in
theorem kk_141 : b_chk r_hk q_D kc_I r_fp 3000 kc_141 [51, 140, 141, 142, 143] [kc_75, kc_110, kc_111, kc_112, kc_113, kc_139, kc_140] []
   [] = true := by decide +kernel
set_option maxRecDepth 100000 in
theorem kk_142 : b_chk r_hk q_D kc_I r_fp 3000 kc_142 [] [kc_115] []
   [(4, [], [], [((2, [(0, (-2147483648), 2147483647), (1, 0, 10)], [], [], []), [(0, .inr (.inl 36)), (1, .inl (false, ([(0, 1)], 0))), (2, .inl (false, ([(1, 1)], 0)))], ([(1, (-1))], 10))])] = true := by decide +kernel

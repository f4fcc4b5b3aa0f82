set_option maxRecDepth 100000 in
theorem kk_121 : b_chk r_hk q_D kc_I r_fp 3000 kc_121 [152] [kc_116] []
   [] = true := by decide +kernel
set_option maxRecDepth 100000 in
theorem kk_122 : b_chk r_hk q_D kc_I r_fp 3000 kc_122 [] [kc_121] []
   [(17, [], [], [((2, [(0, 0, 9), (1, 0, 11)], [], [], []), [(0, .inr (.inl 36)), (1, .inl (false, ([(0, 1)], 0))), (2, .inl (false, ([(1, 1)], 0)))], ([(1, (-13))], 155))]),
    (30, [], [], [((4, [(0, 0, 9), (1, 0, 10), (2, (-2147483648), 2147483647), (3, 0, 11)], [], [], []), [(0, .inr (.inl 36)), (1, .inl (false, ([(0, 1)], 0))), (2, .inl (false, ([(1, 1)], 0))), (3, .inl (false, ([(2, 1)], 0))), (4, .inl (false, ([(3, 1)], 0)))], ([(1, (-13)), (3, (-1))], 154))])] = true := by decide +kernel
set_option maxRecDepth 100000 in
theorem kk_123 : b_chk r_hk q_D kc_I r_fp 3000 kc_123 [] [] []
   [(5, [], [], [((1, [(0, 0, 11)], [], [], []), [(0, .inr (.inl 41)), (1, .inl (false, ([], 0))), (2, .inl (false, ([(0, 1)], 0))), (3, .inl (false, ([], 11)))], ([(0, (-1))], 11))])] = true := by decide +kernel
set_option maxRecDepth 100000 in
theorem kk_124 : b_chk r_hk q_D kc_I r_fp 3000 kc_124 [] [kc_115, kc_120, kc_122, kc_123] []
   [(17, [], [], [((1, [(0, 0, 10)], [], [], []), [(0, .inr (.inl 36)), (1, .inl (false, ([(0, 1)], 0)))], ([(0, (-1))], 10))])] = true := by decide +kernel
set_option maxRecDepth 100000 in
theorem kk_125 : b_chk r_hk q_D kc_I r_fp 3000 kc_125 [] [kc_124] []
   [(6, [], [], [((1, [(0, 0, 10)], [], [], []), [(0, .inr (.inl 36)), (1, .inl (false, ([(0, 1)], 0)))], ([(0, (-1))], 10))])] = true := by decide +kernel
set_option maxRecDepth 100000 in
theorem kk_126 : b_chk r_hk q_D kc_I r_fp 3000 kc_126 [51, 140, 141, 142, 143] [kc_110, kc_111, kc_112, kc_113, kc_125] []
   [] = true := by decide +kernel
set_option maxRecDepth 100000 in
theorem kk_127 : b_chk r_hk q_D kc_I r_fp 3000 kc_127 [51, 140, 141, 142, 143] [kc_110, kc_111, kc_112, kc_113] []
   [] = true := by decide +kernel
set_option maxRecDepth 100000 in
theorem kk_128 : b_chk r_hk q_D kc_I r_fp 3000 kc_128 [] [kc_124] []
   [(8, [], [], [((2, [(0, (-2147483648), 2147483647), (1, 0, 11)], [], [], []), [(0, .inr (.inl 36)), (1, .inl (false, ([(0, 1)], 0))), (2, .inl (false, ([(1, 1)], 0)))], ([(1, (-1))], 11))])] = true := by decide +kernel
set_option maxRecDepth 100000 in
theorem kk_129 : b_chk r_hk q_D kc_I r_fp 3000 kc_129 [51, 140, 141, 142, 143] [kc_110, kc_111, kc_112, kc_113, kc_128] []
   [] = true := by decide +kernel
set_option maxRecDepth 100000 in
theorem kk_130 : b_chk r_hk q_D kc_I r_fp 3000 kc_130 [] [kc_124] []
   [] = true := by decide +kernel
set_option maxRecDepth 100000 in
theorem kk_131 : b_chk r_hk q_D kc_I r_fp 3000 kc_131 [51, 140, 141, 142, 143] [kc_110, kc_111, kc_112, kc_113, kc_130] []
   [] = true := by decide +kernel

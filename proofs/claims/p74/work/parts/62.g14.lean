set_option maxRecDepth 100000 in
theorem kk_154 : b_chk r_hk q_D kc_I r_fp 3000 kc_154 [] [kc_146, kc_150, kc_147, kc_151, kc_148, kc_152, kc_149, kc_153, kc_144, kc_145] [(176, 1, [0, 1, 2, 3, 4])]
   [(17, [(1, 1), (1, 2), (1, 3)], [], [((3, [(0, 0, 20), (1, (-2147483648), 2147483647), (2, 0, 20)], [], [], [(63, [([(0, 1)], 0)])]), [(0, .inr (.inl 0)), (1, .inl (false, ([], 3))), (2, .inl (false, ([(0, 1)], 0))), (3, .inl (false, ([(1, 1)], 0))), (4, .inl (false, ([(2, 1)], 0)))], ([(2, (-1))], 20)), ((3, [(0, 0, 20), (1, (-2147483648), 2147483647), (2, 0, 20)], [], [], [(62, [([(0, 1)], 0)])]), [(0, .inr (.inl 0)), (1, .inl (false, ([], 2))), (2, .inl (false, ([(0, 1)], 0))), (3, .inl (false, ([(1, 1)], 0))), (4, .inl (false, ([(2, 1)], 0)))], ([(2, (-1))], 20)), ((3, [(0, 0, 20), (1, (-2147483648), 2147483647), (2, 0, 20)], [], [], [(61, [([(0, 1)], 0)])]), [(0, .inr (.inl 0)), (1, .inl (false, ([], 1))), (2, .inl (false, ([(0, 1)], 0))), (3, .inl (false, ([(1, 1)], 0))), (4, .inl (false, ([(2, 1)], 0)))], ([(2, (-1))], 20)), ((3, [(0, 0, 20), (1, (-2147483648), 2147483647), (2, 0, 20)], [], [], [(60, [([(0, 1)], 0)])]), [(0, .inr (.inl 0)), (1, .inl (false, ([], 0))), (2, .inl (false, ([(0, 1)], 0))), (3, .inl (false, ([(1, 1)], 0))), (4, .inl (false, ([(2, 1)], 0)))], ([(2, (-1))], 20))])] = true := by decide +kernel
set_option maxRecDepth 100000 in
theorem kk_155 : b_chk r_hk q_D kc_I r_fp 3000 kc_155 [] [kc_146, kc_150, kc_147, kc_151, kc_148, kc_152, kc_149, kc_153, kc_144, kc_145] [(176, 1, [0, 1, 2, 3, 4])]
   [(20, [(1, 1), (1, 2), (1, 3)], [], [((4, [(0, 0, 20), (1, (-1), 19), (2, 0, 2147483647), (3, 0, 20)], [], [], [(63, [([(0, 1)], 0)])]), [(0, .inr (.inl 0)), (1, .inl (false, ([], 3))), (2, .inl (false, ([(0, 1)], 0))), (3, .inl (false, ([(1, 1)], 0))), (4, .inl (false, ([(2, 1)], 0))), (5, .inl (false, ([(3, 1)], 0)))], ([(3, (-1))], 20)), ((4, [(0, 0, 20), (1, (-1), 19), (2, 0, 2147483647), (3, 0, 20)], [], [], [(62, [([(0, 1)], 0)])]), [(0, .inr (.inl 0)), (1, .inl (false, ([], 2))), (2, .inl (false, ([(0, 1)], 0))), (3, .inl (false, ([(1, 1)], 0))), (4, .inl (false, ([(2, 1)], 0))), (5, .inl (false, ([(3, 1)], 0)))], ([(3, (-1))], 20)), ((4, [(0, 0, 20), (1, (-1), 19), (2, 0, 2147483647), (3, 0, 20)], [], [], [(61, [([(0, 1)], 0)])]), [(0, .inr (.inl 0)), (1, .inl (false, ([], 1))), (2, .inl (false, ([(0, 1)], 0))), (3, .inl (false, ([(1, 1)], 0))), (4, .inl (false, ([(2, 1)], 0))), (5, .inl (false, ([(3, 1)], 0)))], ([(3, (-1))], 20)), ((4, [(0, 0, 20), (1, (-1), 19), (2, 0, 2147483647), (3, 0, 20)], [], [], [(60, [([(0, 1)], 0)])]), [(0, .inr (.inl 0)), (1, .inl (false, ([], 0))), (2, .inl (false, ([(0, 1)], 0))), (3, .inl (false, ([(1, 1)], 0))), (4, .inl (false, ([(2, 1)], 0))), (5, .inl (false, ([(3, 1)], 0)))], ([(3, (-1))], 20))])] = true := by decide +kernel
set_option maxRecDepth 100000 in
theorem kk_156 : b_chk r_hk q_D kc_I r_fp 3000 kc_156 [40, 53] [kc_54, kc_63] []
   [(44, [], [], [((4, [(0, 0, 19), (1, 0, 5), (2, (-2147483648), 2147483647), (3, 0, 20)], [], [], []), [(0, .inr (.inl 0)), (1, .inl (false, ([(0, 1)], 0))), (2, .inl (false, ([(1, 1)], 0))), (3, .inl (false, ([(2, 1)], 0))), (4, .inl (false, ([(3, 1)], 0)))], ([(3, (-1))], 20))])] = true := by decide +kernel
set_option maxRecDepth 100000 in
theorem kk_157 : b_chk r_hk q_D kc_I r_fp 3000 kc_157 [81] [kc_52] []
   [(4, [], [], [((2, [(0, 0, 2147483647), (1, 0, 8)], [], [], []), [(0, .inr (.inl 4)), (1, .inl (false, ([(0, 1)], 0))), (2, .inl (false, ([(1, 1)], 0)))], ([(1, (-1))], 8))])] = true := by decide +kernel
set_option maxRecDepth 100000 in
theorem kk_158 : b_chk r_hk q_D kc_I r_fp 3000 kc_158 [83] [kc_57, kc_102] []
   [] = true := by decide +kernel
set_option maxRecDepth 100000 in
theorem kk_159 : b_chk r_hk q_D kc_I r_fp 3000 kc_159 [51] [kc_55, kc_71, kc_157, kc_158] []
   [] = true := by decide +kernel
set_option maxRecDepth 100000 in
theorem kk_160 : b_chk r_hk q_D kc_I r_fp 3000 kc_160 [] [] []
   [] = true := by decide +kernel
set_option maxRecDepth 100000 in
theorem kk_161 : b_chk r_hk q_D kc_I r_fp 3000 kc_161 [] [] []
   [(5, [], [], [((1, [(0, 0, 20)], [], [], []), [(0, .inr (.inl 44)), (1, .inl (false, ([], (-1)))), (2, .inl (false, ([(0, 1)], 0))), (3, .inl (false, ([], 20)))], ([(0, (-1))], 20))])] = true := by decide +kernel
set_option maxRecDepth 100000 in
theorem kk_162 : b_chk r_hk q_D kc_I r_fp 3000 kc_162 [] [] []
   [] = true := by decide +kernel
set_option maxRecDepth 100000 in
theorem kk_163 : b_chk r_hk q_D kc_I r_fp 3000 kc_163 [] [] []
   [] = true := by decide +kernel
set_option maxRecDepth 100000 in
theorem kk_164 : b_chk r_hk q_D kc_I r_fp 3000 kc_164 [] [kc_162, kc_163] []
   [] = true := by decide +kernel

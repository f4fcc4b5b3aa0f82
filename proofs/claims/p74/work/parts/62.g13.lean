set_option maxRecDepth 100000 in
theorem kk_143 : b_chk r_hk q_D kc_I r_fp 3000 kc_143 [51, 140, 141, 142, 143] [kc_110, kc_111, kc_112, kc_113, kc_142] []
   [] = true := by decide +kernel
set_option maxRecDepth 100000 in
theorem kk_144 : b_chk r_hk q_D kc_I r_fp 3000 kc_144 [51, 141, 142, 143] [] []
   [(8, [(2, 0)], [], [((1, [(0, (-2147483648), (-1))], [], [], []), [(0, .inr (.inl 0)), (1, .inl (false, ([(0, 1)], 0))), (2, .inl (false, ([], (-2)))), (3, .inl (false, ([], 0)))], ([], 0))])] = true := by decide +kernel
set_option maxRecDepth 100000 in
theorem kk_145 : b_chk r_hk q_D kc_I r_fp 3000 kc_145 [51, 141, 142, 143] [] []
   [(8, [(2, 0)], [], [((1, [(0, 4, 2147483647)], [], [], []), [(0, .inr (.inl 0)), (1, .inl (false, ([(0, 1)], 0))), (2, .inl (false, ([], (-2)))), (3, .inl (false, ([], 0)))], ([], 0))])] = true := by decide +kernel
set_option maxRecDepth 100000 in
theorem kk_146 : b_chk r_hk q_D kc_I r_fp 3000 kc_146 [51, 141, 142, 143] [] []
   [(8, [(2, 0)], [], [((2, [(0, 0, 20), (1, 0, 20)], [], [], [(60, [([(1, 1)], 0)])]), [(0, .inr (.inl 0)), (1, .inl (false, ([], 0))), (2, .inl (false, ([(0, 1)], 0))), (3, .inl (false, ([(1, 1)], 0)))], ([(1, (-1))], 20)), ((1, [(0, (-6), (-2))], [], [], [(60, [([], 0)])]), [(0, .inr (.inl 0)), (1, .inl (false, ([], 0))), (2, .inl (false, ([(0, 1)], 0))), (3, .inl (false, ([], 0)))], ([], 20))])] = true := by decide +kernel
set_option maxRecDepth 100000 in
theorem kk_147 : b_chk r_hk q_D kc_I r_fp 3000 kc_147 [51, 141, 142, 143] [] []
   [(8, [(2, 0)], [], [((2, [(0, 0, 20), (1, 0, 20)], [], [], [(61, [([(1, 1)], 0)])]), [(0, .inr (.inl 0)), (1, .inl (false, ([], 1))), (2, .inl (false, ([(0, 1)], 0))), (3, .inl (false, ([(1, 1)], 0)))], ([(1, (-1))], 20)), ((1, [(0, (-6), (-2))], [], [], [(61, [([], 0)])]), [(0, .inr (.inl 0)), (1, .inl (false, ([], 1))), (2, .inl (false, ([(0, 1)], 0))), (3, .inl (false, ([], 0)))], ([], 20))])] = true := by decide +kernel
set_option maxRecDepth 100000 in
theorem kk_148 : b_chk r_hk q_D kc_I r_fp 3000 kc_148 [51, 141, 142, 143] [] []
   [(8, [(2, 0)], [], [((2, [(0, 0, 20), (1, 0, 20)], [], [], [(62, [([(1, 1)], 0)])]), [(0, .inr (.inl 0)), (1, .inl (false, ([], 2))), (2, .inl (false, ([(0, 1)], 0))), (3, .inl (false, ([(1, 1)], 0)))], ([(1, (-1))], 20)), ((1, [(0, (-6), (-2))], [], [], [(62, [([], 0)])]), [(0, .inr (.inl 0)), (1, .inl (false, ([], 2))), (2, .inl (false, ([(0, 1)], 0))), (3, .inl (false, ([], 0)))], ([], 20))])] = true := by decide +kernel
set_option maxRecDepth 100000 in
theorem kk_149 : b_chk r_hk q_D kc_I r_fp 3000 kc_149 [51, 141, 142, 143] [] []
   [(8, [(2, 0)], [], [((2, [(0, 0, 20), (1, 0, 20)], [], [], [(63, [([(1, 1)], 0)])]), [(0, .inr (.inl 0)), (1, .inl (false, ([], 3))), (2, .inl (false, ([(0, 1)], 0))), (3, .inl (false, ([(1, 1)], 0)))], ([(1, (-1))], 20)), ((1, [(0, (-6), (-2))], [], [], [(63, [([], 0)])]), [(0, .inr (.inl 0)), (1, .inl (false, ([], 3))), (2, .inl (false, ([(0, 1)], 0))), (3, .inl (false, ([], 0)))], ([], 20))])] = true := by decide +kernel
set_option maxRecDepth 100000 in
theorem kk_150 : b_chk r_hk q_D kc_I r_fp 3000 kc_150 [] [kc_64] []
   [(6, [], [], [((4, [(0, 0, 20), (1, 0, 19), (2, (-2147483648), 2147483647), (3, 0, 20)], [], [], [(60, [([(0, 1)], 0)])]), [(0, .inr (.inl 0)), (1, .inr (.inl 85)), (2, .inl (false, ([(0, 1)], 0))), (3, .inl (false, ([(1, 1)], 0))), (4, .inl (false, ([(2, 1)], 0))), (5, .inl (false, ([(3, 1)], 0)))], ([(3, (-1))], 20))])] = true := by decide +kernel
set_option maxRecDepth 100000 in
theorem kk_151 : b_chk r_hk q_D kc_I r_fp 3000 kc_151 [] [kc_64] []
   [(6, [], [], [((4, [(0, 0, 20), (1, 0, 19), (2, (-2147483648), 2147483647), (3, 0, 20)], [], [], [(61, [([(0, 1)], 0)])]), [(0, .inr (.inl 0)), (1, .inr (.inl 87)), (2, .inl (false, ([(0, 1)], 0))), (3, .inl (false, ([(1, 1)], 0))), (4, .inl (false, ([(2, 1)], 0))), (5, .inl (false, ([(3, 1)], 0)))], ([(3, (-1))], 20))])] = true := by decide +kernel
set_option maxRecDepth 100000 in
theorem kk_152 : b_chk r_hk q_D kc_I r_fp 3000 kc_152 [] [kc_64] []
   [(6, [], [], [((4, [(0, 0, 20), (1, 0, 19), (2, (-2147483648), 2147483647), (3, 0, 20)], [], [], [(62, [([(0, 1)], 0)])]), [(0, .inr (.inl 0)), (1, .inr (.inl 89)), (2, .inl (false, ([(0, 1)], 0))), (3, .inl (false, ([(1, 1)], 0))), (4, .inl (false, ([(2, 1)], 0))), (5, .inl (false, ([(3, 1)], 0)))], ([(3, (-1))], 20))])] = true := by decide +kernel
set_option maxRecDepth 100000 in
theorem kk_153 : b_chk r_hk q_D kc_I r_fp 3000 kc_153 [] [kc_64] []
   [(6, [], [], [((4, [(0, 0, 20), (1, 0, 19), (2, (-2147483648), 2147483647), (3, 0, 20)], [], [], [(63, [([(0, 1)], 0)])]), [(0, .inr (.inl 0)), (1, .inr (.inl 91)), (2, .inl (false, ([(0, 1)], 0))), (3, .inl (false, ([(1, 1)], 0))), (4, .inl (false, ([(2, 1)], 0))), (5, .inl (false, ([(3, 1)], 0)))], ([(3, (-1))], 20))])] = true := by decide +kernel

set_option maxRecDepth 100000 in
theorem kk_165 : b_chk r_hk q_D kc_I r_fp 3000 kc_165 [] [] []
   [(4, [], [], [((3, [(0, 0, 19), (1, (-1), 19), (2, 0, 20)], [], [], []), [(0, .inr (.inl 43)), (1, .inl (false, ([(0, 1)], 0))), (2, .inl (false, ([(1, 1)], 0))), (3, .inl (false, ([(2, 1)], 0)))], ([(2, (-1))], 20))])] = true := by decide +kernel
set_option maxRecDepth 100000 in
theorem kk_166 : b_chk r_hk q_D kc_I r_fp 3000 kc_166 [] [kc_69, kc_164, kc_165] []
   [(16, [], [], [((6, [(0, 0, 19), (1, 0, 1048575), (2, (-2147483648), 2147483647), (3, 0, 1048575), (4, 1, 20), (5, 0, 20)], [], [], []), [(0, .inr (.inl 43)), (1, .inl (false, ([(0, 1)], 0))), (2, .inl (false, ([(1, 1)], 0))), (3, .inl (false, ([(2, 1)], 0))), (4, .inl (false, ([(3, 1)], 0))), (5, .inl (false, ([(4, 1)], 0))), (6, .inl (false, ([(5, 1)], 0)))], ([(5, (-22))], 461))]),
    (26, [], [], [((7, [(0, 0, 19), (1, 0, 1048575), (2, (-2147483648), 2147483647), (3, 0, 1048575), (4, 1, 20), (5, 0, 19), (6, 0, 20)], [], [], []), [(0, .inr (.inl 43)), (1, .inl (false, ([(0, 1)], 0))), (2, .inl (false, ([(1, 1)], 0))), (3, .inl (false, ([(2, 1)], 0))), (4, .inl (false, ([(3, 1)], 0))), (5, .inl (false, ([(4, 1)], 0))), (6, .inl (false, ([(5, 1)], 0))), (7, .inl (false, ([(6, 1)], 0)))], ([(5, (-22)), (6, (-1))], 460))])] = true := by decide +kernel
set_option maxRecDepth 100000 in
theorem kk_167 : b_chk r_hk q_D kc_I r_fp 3000 kc_167 [] [kc_69, kc_161, kc_166] []
   [(13, [], [], [((4, [(0, 0, 1048575), (1, (-2147483648), 2147483647), (2, (-2147483648), 2147483647), (3, 0, 20)], [], [], []), [(0, .inr (.inl 43)), (1, .inl (false, ([(0, 1)], 0))), (2, .inl (false, ([(1, 1)], 0))), (3, .inl (false, ([(2, 1)], 0))), (4, .inl (false, ([(3, 1)], 0)))], ([(3, (-1))], 20))])] = true := by decide +kernel
set_option maxRecDepth 100000 in
theorem kk_168 : b_chk r_hk q_D kc_I r_fp 3000 kc_168 [51, 83] [kc_160, kc_167] []
   [] = true := by decide +kernel
set_option maxRecDepth 100000 in
theorem kk_169 : b_chk r_hk q_D kc_I r_fp 3000 kc_169 [42] [kc_56, kc_160, kc_167] []
   [] = true := by decide +kernel
set_option maxRecDepth 100000 in
theorem kk_170 : b_chk r_hk q_D kc_I r_fp 3000 kc_170 [40] [kc_160, kc_164] []
   [(26, [], [], [((4, [(0, 0, 19), (1, (-2147483648), 2147483647), (2, (-2147483648), 2147483647), (3, 0, 20)], [], [], []), [(0, .inr (.inl 0)), (1, .inl (false, ([(0, 1)], 0))), (2, .inl (false, ([(1, 1)], 0))), (3, .inl (false, ([(2, 1)], 0))), (4, .inl (false, ([(3, 1)], 0)))], ([(3, (-1))], 20))])] = true := by decide +kernel
set_option maxRecDepth 100000 in
theorem kk_171 : b_chk r_hk q_D kc_I r_fp 3000 kc_171 [40, 83] [kc_160, kc_167] []
   [] = true := by decide +kernel
set_option maxRecDepth 100000 in
theorem kk_172 : b_chk r_hk q_D kc_I r_fp 3000 kc_172 [] [] []
   [] = true := by decide +kernel
set_option maxRecDepth 100000 in
theorem kk_173 : b_chk r_hk q_D kc_I r_fp 3000 kc_173 [] [] []
   [] = true := by decide +kernel
set_option maxRecDepth 100000 in
theorem kk_174 : b_chk r_hk q_D kc_I r_fp 3000 kc_174 [] [kc_173] []
   [(5, [], [], [((4, [(0, 0, 19), (1, (-2147483648), 2147483647), (2, (-2147483648), 2147483647), (3, 0, 20)], [], [], []), [(0, .inr (.inl 47)), (1, .inl (false, ([(0, 1)], 0))), (2, .inl (false, ([(1, 1)], 0))), (3, .inl (false, ([(2, 1)], 0))), (4, .inl (false, ([(3, 1)], 0)))], ([(3, (-1))], 20))])] = true := by decide +kernel
set_option maxRecDepth 100000 in
theorem kk_175 : b_chk r_hk q_D kc_I r_fp 3000 kc_175 [] [kc_174] []
   [(3, [], [], [((4, [(0, 0, 7), (1, (-2147483648), 2147483647), (2, 0, 2147483647), (3, 0, 20)], [], [], []), [(0, .inr (.inl 47)), (1, .inl (false, ([(0, 1)], 0))), (2, .inl (false, ([(1, 1)], 0))), (3, .inl (false, ([(2, 1)], 0))), (4, .inl (false, ([(3, 1)], 0)))], ([(3, (-1))], 20))])] = true := by decide +kernel

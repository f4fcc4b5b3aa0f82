set_option maxRecDepth 100000 in
theorem kk_176 : b_chk r_hk q_D kc_I r_fp 3000 kc_176 [42] [kc_172, kc_175] []
   [] = true := by decide +kernel
set_option maxRecDepth 100000 in
theorem kk_177 : b_chk r_hk q_D kc_I r_fp 3000 kc_177 [40] [kc_172, kc_174] []
   [] = true := by decide +kernel
set_option maxRecDepth 100000 in
theorem kk_178 : b_chk r_hk q_D kc_I r_fp 3000 kc_178 [51] [kc_172, kc_175] []
   [(32, [], [], [((4, [(0, (-2147483648), 2147483647), (1, (-2147483648), 2147483647), (2, 0, 1048575), (3, 0, 8)], [], [], []), [(0, .inr (.inl 0)), (1, .inl (false, ([(0, 1)], 0))), (2, .inl (false, ([(1, 1)], 0))), (3, .inl (false, ([(2, 1)], 0))), (4, .inl (false, ([(3, 1)], 0)))], ([(3, (-1))], 8))])] = true := by decide +kernel
set_option maxRecDepth 100000 in
theorem kk_179 : b_chk r_hk q_D kc_I r_fp 3000 kc_179 [] [kc_53] []
   [(5, [], [], [((4, [(0, 0, 7), (1, 0, 1), (2, 0, 20), (3, 0, 20)], [([(2, (-1)), (3, 1)], 0)], [], []), [(0, .inr (.inl 47)), (1, .inl (false, ([(0, 1)], 0))), (2, .inl (false, ([(1, 1)], 0))), (3, .inl (false, ([(2, 1)], 0))), (4, .inl (false, ([(3, 1)], 0)))], ([(3, (-21))], 440))]),
    (63, [], [], [((5, [(0, 0, 7), (1, 0, 1), (2, 0, 19), (3, 0, 19), (4, 0, 19)], [([(2, (-1)), (3, 1)], 0), ([(2, 1), (4, (-1))], 0)], [], []), [(0, .inr (.inl 47)), (1, .inl (false, ([(0, 1)], 0))), (2, .inl (false, ([(1, 1)], 0))), (3, .inl (false, ([(2, 1)], 0))), (4, .inl (false, ([(3, 1)], 0))), (5, .inl (false, ([(4, 1)], 0)))], ([(3, (-21)), (4, 1)], 420))])] = true := by decide +kernel
set_option maxRecDepth 100000 in
theorem kk_180 : b_chk r_hk q_D kc_I r_fp 3000 kc_180 [] [kc_179] []
   [(17, [], [], [((7, [(0, 0, 7), (1, 0, 1), (2, (-2147483648), 2147483647), (3, 0, 20), (4, (-2147483648), 2147483647), (5, (-2147483648), 2147483647), (6, 0, 20)], [], [], []), [(0, .inr (.inl 47)), (1, .inl (false, ([(0, 1)], 0))), (2, .inl (false, ([(1, 1)], 0))), (3, .inl (false, ([(2, 1)], 0))), (4, .inl (false, ([(3, 1)], 0))), (5, .inl (false, ([(4, 1)], 0))), (6, .inl (false, ([(5, 1)], 0))), (7, .inl (false, ([(6, 1)], 0)))], ([(6, (-1))], 20))])] = true := by decide +kernel
set_option maxRecDepth 100000 in
theorem kk_181 : b_chk r_hk q_D kc_I r_fp 3000 kc_181 [] [kc_180] []
   [] = true := by decide +kernel
set_option maxRecDepth 100000 in
theorem kk_182 : b_chk r_hk q_D kc_I r_fp 3000 kc_182 [42] [kc_160, kc_181] []
   [] = true := by decide +kernel
set_option maxRecDepth 100000 in
theorem kk_183 : b_chk r_hk q_D kc_I r_fp 3000 kc_183 [42] [kc_181] []
   [(20, [], [], [((3, [(0, 0, 7), (1, 0, 2147483647), (2, 0, 100)], [], [], []), [(0, .inr (.inl 0)), (1, .inl (false, ([(0, 1)], 0))), (2, .inl (false, ([(1, 1)], 0))), (3, .inl (false, ([(2, 1)], 0)))], ([(2, (-1))], 100))])] = true := by decide +kernel
set_option maxRecDepth 100000 in
theorem kk_184 : b_chk r_hk q_D kc_I r_fp 3000 kc_184 [81] [kc_54, kc_70] []
   [(5, [], [], [((4, [(0, 0, 7), (1, (-2147483648), 2147483647), (2, 0, 21), (3, 0, 20)], [], [], []), [(0, .inr (.inl 4)), (1, .inl (false, ([(0, 1)], 0))), (2, .inl (false, ([(1, 1)], 0))), (3, .inl (false, ([(2, 1)], 0))), (4, .inl (false, ([(3, 1)], 0)))], ([(3, (-1))], 20))])] = true := by decide +kernel
set_option maxRecDepth 100000 in
theorem kk_185 : b_chk r_hk q_D kc_I r_fp 3000 kc_185 [51] [kc_68, kc_184] []
   [(24, [], [], [((3, [(0, (-2147483648), 2147483647), (1, (-2147483648), 2147483647), (2, 0, 8)], [], [], []), [(0, .inr (.inl 0)), (1, .inl (false, ([(0, 1)], 0))), (2, .inl (false, ([(1, 1)], 0))), (3, .inl (false, ([(2, 1)], 0)))], ([(2, (-1))], 8))])] = true := by decide +kernel
set_option maxRecDepth 100000 in
theorem kk_186 : b_chk r_hk q_D kc_I r_fp 3000 kc_186 [51] [kc_52, kc_58, kc_68, kc_163, kc_184] []
   [(27, [], [], [((4, [(0, (-2147483648), 2147483647), (1, (-1), 7), (2, 0, 2147483647), (3, 0, 8)], [], [], []), [(0, .inr (.inl 0)), (1, .inl (false, ([(0, 1)], 0))), (2, .inl (false, ([(1, 1)], 0))), (3, .inl (false, ([(2, 1)], 0))), (4, .inl (false, ([(3, 1)], 0)))], ([(3, (-1))], 8))])] = true := by decide +kernel

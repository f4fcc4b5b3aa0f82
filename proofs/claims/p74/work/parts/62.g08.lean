set_option maxRecDepth 100000 in
theorem kk_88 : b_chk r_hk q_D kc_I r_fp 3000 kc_88 [81] [kc_87] []
   [(4, [], [], [((3, [(0, (-2147483648), 2147483647), (1, (-1), 2147483647), (2, 0, 20)], [], [], []), [(0, .inr (.inl 4)), (1, .inl (false, ([(0, 1)], 0))), (2, .inl (false, ([(1, 1)], 0))), (3, .inl (false, ([(2, 1)], 0)))], ([(2, (-1))], 20))])] = true := by decide +kernel
set_option maxRecDepth 100000 in
theorem kk_89 : b_chk r_hk q_D kc_I r_fp 3000 kc_89 [] [] []
   [(2, [], [], [((2, [(0, 0, 30), (1, 0, 20)], [], [], []), [(0, .inr (.inl 4)), (1, .inl (false, ([(0, 1)], 0))), (2, .inl (false, ([(1, 1)], 0)))], ([(1, (-1))], 20))])] = true := by decide +kernel
set_option maxRecDepth 100000 in
theorem kk_90 : b_chk r_hk q_D kc_I r_fp 3000 kc_90 [51] [kc_55, kc_57, kc_88, kc_89] []
   [] = true := by decide +kernel
set_option maxRecDepth 100000 in
theorem kk_91 : b_chk r_hk q_D kc_I r_fp 3000 kc_91 [] [] []
   [(4, [], [], [((3, [(0, 0, 19), (1, (-2147483648), 2147483647), (2, 0, 6)], [], [], []), [(0, .inr (.inl 4)), (1, .inl (false, ([(0, 1)], 0))), (2, .inl (false, ([(1, 1)], 0))), (3, .inl (false, ([(2, 1)], 0)))], ([(2, (-1))], 6))])] = true := by decide +kernel
set_option maxRecDepth 100000 in
theorem kk_92 : b_chk r_hk q_D kc_I r_fp 3000 kc_92 [51] [kc_54, kc_75, kc_91] []
   [(30, [], [], [((5, [(0, (-2147483648), 2147483647), (1, (-2147483648), 2147483647), (2, 0, 2147483647), (3, (-1), 19), (4, 0, 20)], [], [], []), [(0, .inr (.inl 0)), (1, .inl (false, ([(0, 1)], 0))), (2, .inl (false, ([(1, 1)], 0))), (3, .inl (false, ([(2, 1)], 0))), (4, .inl (false, ([(3, 1)], 0))), (5, .inl (false, ([(4, 1)], 0)))], ([(4, (-1))], 20))])] = true := by decide +kernel
set_option maxRecDepth 100000 in
theorem kk_93 : b_chk r_hk q_D kc_I r_fp 3000 kc_93 [] [kc_55, kc_66] []
   [(13, [], [], [((1, [(0, 0, 20)], [], [], []), [(0, .inr (.inl 30)), (1, .inl (false, ([(0, 1)], 0)))], ([(0, (-8))], 167))]),
    (26, [], [], [((2, [(0, 0, 19), (1, 0, 6)], [], [], []), [(0, .inr (.inl 30)), (1, .inl (false, ([(0, 1)], 0))), (2, .inl (false, ([(1, 1)], 0)))], ([(0, (-8)), (1, (-1))], 166))])] = true := by decide +kernel
set_option maxRecDepth 100000 in
theorem kk_94 : b_chk r_hk q_D kc_I r_fp 3000 kc_94 [121] [kc_69] []
   [(6, [], [], [((5, [(0, 0, 19), (1, 0, 5), (2, 0, 20), (3, (-2147483648), 2147483647), (4, 0, 20)], [], [], []), [(0, .inr (.inl 30)), (1, .inl (false, ([(0, 1)], 0))), (2, .inl (false, ([(1, 1)], 0))), (3, .inl (false, ([(2, 1)], 0))), (4, .inl (false, ([(3, 1)], 0))), (5, .inl (false, ([(4, 1)], 0)))], ([(4, (-1))], 20))])] = true := by decide +kernel
set_option maxRecDepth 100000 in
theorem kk_95 : b_chk r_hk q_D kc_I r_fp 3000 kc_95 [] [kc_69, kc_94] []
   [(4, [], [], [((3, [(0, 0, 5), (1, (-2147483648), 2147483647), (2, 0, 20)], [], [], []), [(0, .inr (.inl 30)), (1, .inl (false, ([(0, 1)], 0))), (2, .inl (false, ([(1, 1)], 0))), (3, .inl (false, ([(2, 1)], 0)))], ([(2, (-1))], 20))])] = true := by decide +kernel
set_option maxRecDepth 100000 in
theorem kk_96 : b_chk r_hk q_D kc_I r_fp 3000 kc_96 [53] [kc_93, kc_95] []
   [] = true := by decide +kernel
set_option maxRecDepth 100000 in
theorem kk_97 : b_chk r_hk q_D kc_I r_fp 3000 kc_97 [81] [kc_69, kc_94] []
   [(4, [], [], [((3, [(0, 0, 5), (1, 0, 2147483647), (2, 0, 20)], [], [], []), [(0, .inr (.inl 30)), (1, .inl (false, ([(0, 1)], 0))), (2, .inl (false, ([(1, 1)], 0))), (3, .inl (false, ([(2, 1)], 0)))], ([(2, (-1))], 20))])] = true := by decide +kernel
set_option maxRecDepth 100000 in
theorem kk_98 : b_chk r_hk q_D kc_I r_fp 3000 kc_98 [53] [kc_93, kc_97] []
   [] = true := by decide +kernel

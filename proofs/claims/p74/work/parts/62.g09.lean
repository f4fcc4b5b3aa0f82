set_option maxRecDepth 100000 in
theorem kk_99 : b_chk r_hk q_D kc_I r_fp 3000 kc_99 [51] [kc_93, kc_97] []
   [(27, [], [], [((3, [(0, (-1), 5), (1, 0, 21), (2, 0, 6)], [], [], []), [(0, .inr (.inl 0)), (1, .inl (false, ([(0, 1)], 0))), (2, .inl (false, ([(1, 1)], 0))), (3, .inl (false, ([(2, 1)], 0)))], ([(2, (-1))], 6))])] = true := by decide +kernel
set_option maxRecDepth 100000 in
theorem kk_100 : b_chk r_hk q_D kc_I r_fp 3000 kc_100 [121] [kc_69] []
   [(3, [], [], [((4, [(0, 0, 19), (1, 0, 19), (2, 0, 63), (3, 0, 6)], [], [], []), [(0, .inr (.inl 30)), (1, .inl (false, ([(0, 1)], 0))), (2, .inl (false, ([(1, 1)], 0))), (3, .inl (false, ([(2, 1)], 0))), (4, .inl (false, ([(3, 1)], 0)))], ([(3, (-1))], 6))])] = true := by decide +kernel
set_option maxRecDepth 100000 in
theorem kk_101 : b_chk r_hk q_D kc_I r_fp 3000 kc_101 [] [kc_69, kc_100] []
   [(5, [], [], [((4, [(0, 0, 19), (1, 0, 63), (2, (-2147483648), 2147483647), (3, 0, 20)], [], [], []), [(0, .inr (.inl 30)), (1, .inl (false, ([(0, 1)], 0))), (2, .inl (false, ([(1, 1)], 0))), (3, .inl (false, ([(2, 1)], 0))), (4, .inl (false, ([(3, 1)], 0)))], ([(3, (-1))], 20))])] = true := by decide +kernel
set_option maxRecDepth 100000 in
theorem kk_102 : b_chk r_hk q_D kc_I r_fp 3000 kc_102 [] [kc_69] []
   [(4, [], [], [((3, [(0, (-2147483648), 2147483647), (1, (-2147483648), 2147483647), (2, 0, 20)], [], [], []), [(0, .inr (.inl 4)), (1, .inl (false, ([(0, 1)], 0))), (2, .inl (false, ([(1, 1)], 0))), (3, .inl (false, ([(2, 1)], 0)))], ([(2, (-1))], 20))])] = true := by decide +kernel
set_option maxRecDepth 100000 in
theorem kk_103 : b_chk r_hk q_D kc_I r_fp 3000 kc_103 [] [kc_69, kc_101, kc_102] []
   [(14, [], [], [((3, [(0, 0, 63), (1, (-2147483648), 2147483647), (2, 0, 20)], [], [], []), [(0, .inr (.inl 30)), (1, .inl (false, ([(0, 1)], 0))), (2, .inl (false, ([(1, 1)], 0))), (3, .inl (false, ([(2, 1)], 0)))], ([(2, (-1))], 20))])] = true := by decide +kernel
set_option maxRecDepth 100000 in
theorem kk_104 : b_chk r_hk q_D kc_I r_fp 3000 kc_104 [51, 126] [kc_93, kc_103] []
   [] = true := by decide +kernel
set_option maxRecDepth 100000 in
theorem kk_105 : b_chk r_hk q_D kc_I r_fp 3000 kc_105 [51, 126] [kc_57, kc_75, kc_93, kc_103] []
   [(50, [], [], [((4, [(0, (-2147483648), 2147483647), (1, 0, 63), (2, 0, 63), (3, 0, 99)], [], [], []), [(0, .inr (.inl 0)), (1, .inl (false, ([(0, 1)], 0))), (2, .inl (false, ([(1, 1)], 0))), (3, .inl (false, ([(2, 1)], 0))), (4, .inl (false, ([(3, 1)], 0)))], ([(3, (-1))], 99))])] = true := by decide +kernel
set_option maxRecDepth 100000 in
theorem kk_106 : b_chk r_hk q_D kc_I r_fp 3000 kc_106 [126] [kc_101] []
   [] = true := by decide +kernel
set_option maxRecDepth 100000 in
theorem kk_107 : b_chk r_hk q_D kc_I r_fp 3000 kc_107 [40] [kc_54, kc_93, kc_106] []
   [] = true := by decide +kernel
set_option maxRecDepth 100000 in
theorem kk_108 : b_chk r_hk q_D kc_I r_fp 3000 kc_108 [51, 81, 126] [kc_57, kc_93, kc_103] []
   [(39, [], [], [((3, [(0, 0, 6), (1, 0, 63), (2, 0, 99)], [], [], []), [(0, .inr (.inl 0)), (1, .inl (false, ([(0, 1)], 0))), (2, .inl (false, ([(1, 1)], 0))), (3, .inl (false, ([(2, 1)], 0)))], ([(2, (-1))], 99))])] = true := by decide +kernel
set_option maxRecDepth 100000 in
theorem kk_109 : b_chk r_hk q_D kc_I r_fp 3000 kc_109 [] [] []
   [] = true := by decide +kernel

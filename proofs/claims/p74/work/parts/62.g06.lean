set_option maxRecDepth 100000 in
theorem kk_66 : b_chk r_hk q_D kc_I r_fp 3000 kc_66 [] [kc_64] []
   [] = true := by decide +kernel
set_option maxRecDepth 100000 in
theorem kk_67 : b_chk r_hk q_D kc_I r_fp 3000 kc_67 [40, 53] [kc_54, kc_66] []
   [] = true := by decide +kernel
set_option maxRecDepth 100000 in
theorem kk_68 : b_chk r_hk q_D kc_I r_fp 3000 kc_68 [] [] []
   [] = true := by decide +kernel
set_option maxRecDepth 100000 in
theorem kk_69 : b_chk r_hk q_D kc_I r_fp 3000 kc_69 [] [] []
   [] = true := by decide +kernel
set_option maxRecDepth 100000 in
theorem kk_70 : b_chk r_hk q_D kc_I r_fp 3000 kc_70 [] [kc_51, kc_62] []
   [(18, [], [], [((4, [(0, 0, 19), (1, (-2147483648), 2147483647), (2, 0, 42), (3, 0, 20)], [([(2, (-1)), (3, 2)], 2)], [], []), [(0, .inr (.inl 4)), (1, .inl (false, ([(0, 1)], 0))), (2, .inl (false, ([(1, 1)], 0))), (3, .inl (false, ([(2, 1)], 0))), (4, .inl (false, ([(3, 1)], 0)))], ([(3, (-1))], 20))])] = true := by decide +kernel
set_option maxRecDepth 100000 in
theorem kk_71 : b_chk r_hk q_D kc_I r_fp 3000 kc_71 [] [kc_69, kc_70] []
   [(5, [], [], [((4, [(0, 0, 1048575), (1, (-2147483648), 2147483647), (2, (-2147483648), 2147483647), (3, 0, 20)], [], [], []), [(0, .inr (.inl 4)), (1, .inl (false, ([(0, 1)], 0))), (2, .inl (false, ([(1, 1)], 0))), (3, .inl (false, ([(2, 1)], 0))), (4, .inl (false, ([(3, 1)], 0)))], ([(3, (-1))], 20))])] = true := by decide +kernel
set_option maxRecDepth 100000 in
theorem kk_72 : b_chk r_hk q_D kc_I r_fp 3000 kc_72 [51] [kc_55, kc_68, kc_71] []
   [] = true := by decide +kernel
set_option maxRecDepth 100000 in
theorem kk_73 : b_chk r_hk q_D kc_I r_fp 3000 kc_73 [] [kc_51] []
   [(4, [], [], [((3, [(0, (-2147483648), 2147483647), (1, (-2147483648), 2147483647), (2, 0, 20)], [], [], []), [(0, .inr (.inl 4)), (1, .inl (false, ([(0, 1)], 0))), (2, .inl (false, ([(1, 1)], 0))), (3, .inl (false, ([(2, 1)], 0)))], ([(2, (-1))], 20))])] = true := by decide +kernel
set_option maxRecDepth 100000 in
theorem kk_74 : b_chk r_hk q_D kc_I r_fp 3000 kc_74 [51] [kc_68, kc_73] []
   [] = true := by decide +kernel
set_option maxRecDepth 100000 in
theorem kk_75 : b_chk r_hk q_D kc_I r_fp 3000 kc_75 [] [] []
   [] = true := by decide +kernel
set_option maxRecDepth 100000 in
theorem kk_76 : b_chk r_hk q_D kc_I r_fp 3000 kc_76 [] [kc_54, kc_66] []
   [(5, [], [], [((4, [(0, 0, 7), (1, 0, 5), (2, (-2147483648), 2147483647), (3, 0, 20)], [], [], []), [(0, .inr (.inl 4)), (1, .inl (false, ([(0, 1)], 0))), (2, .inl (false, ([(1, 1)], 0))), (3, .inl (false, ([(2, 1)], 0))), (4, .inl (false, ([(3, 1)], 0)))], ([(3, (-1))], 20))])] = true := by decide +kernel

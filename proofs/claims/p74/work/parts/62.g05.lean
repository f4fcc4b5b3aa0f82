set_option maxRecDepth 100000 in
theorem kk_55 : b_chk r_hk q_D kc_I r_fp 3000 kc_55 [] [kc_54] []
   [(4, [], [], [((2, [(0, 0, 1048575), (1, 0, 20)], [], [], []), [(0, .inr (.inl 4)), (1, .inl (false, ([(0, 1)], 0))), (2, .inl (false, ([(1, 1)], 0)))], ([(1, (-1))], 20))])] = true := by decide +kernel
set_option maxRecDepth 100000 in
theorem kk_56 : b_chk r_hk q_D kc_I r_fp 3000 kc_56 [] [] []
   [(4, [], [], [((3, [(0, 0, 7), (1, 0, 1048575), (2, 0, 20)], [], [], []), [(0, .inr (.inl 4)), (1, .inl (false, ([(0, 1)], 0))), (2, .inl (false, ([(1, 1)], 0))), (3, .inl (false, ([(2, 1)], 0)))], ([(2, (-1))], 20))])] = true := by decide +kernel
set_option maxRecDepth 100000 in
theorem kk_57 : b_chk r_hk q_D kc_I r_fp 3000 kc_57 [] [] []
   [] = true := by decide +kernel
set_option maxRecDepth 100000 in
theorem kk_58 : b_chk r_hk q_D kc_I r_fp 3000 kc_58 [] [kc_55, kc_56, kc_57] []
   [] = true := by decide +kernel
set_option maxRecDepth 100000 in
theorem kk_59 : b_chk r_hk q_D kc_I r_fp 3000 kc_59 [] [] []
   [(2, [], [], [((2, [(0, 0, 7), (1, 0, 20)], [], [], []), [(0, .inr (.inl 4)), (1, .inl (false, ([(0, 1)], 0))), (2, .inl (false, ([(1, 1)], 0)))], ([(1, (-1))], 20))])] = true := by decide +kernel
set_option maxRecDepth 100000 in
theorem kk_60 : b_chk r_hk q_D kc_I r_fp 3000 kc_60 [42] [kc_52, kc_58, kc_59] []
   [] = true := by decide +kernel
set_option maxRecDepth 100000 in
theorem kk_61 : b_chk r_hk q_D kc_I r_fp 3000 kc_61 [51] [kc_55] []
   [] = true := by decide +kernel
set_option maxRecDepth 100000 in
theorem kk_62 : b_chk r_hk q_D kc_I r_fp 3000 kc_62 [] [] []
   [] = true := by decide +kernel
set_option maxRecDepth 100000 in
theorem kk_63 : b_chk r_hk q_D kc_I r_fp 3000 kc_63 [] [kc_51, kc_62] []
   [] = true := by decide +kernel
set_option maxRecDepth 100000 in
theorem kk_64 : b_chk r_hk q_D kc_I r_fp 3000 kc_64 [] [kc_63] []
   [(5, [], [], [((4, [(0, 0, 19), (1, 0, 5), (2, (-2147483648), 2147483647), (3, 0, 20)], [], [], []), [(0, .inr (.inl 4)), (1, .inl (false, ([(0, 1)], 0))), (2, .inl (false, ([(1, 1)], 0))), (3, .inl (false, ([(2, 1)], 0))), (4, .inl (false, ([(3, 1)], 0)))], ([(3, (-1))], 20))])] = true := by decide +kernel
set_option maxRecDepth 100000 in
theorem kk_65 : b_chk r_hk q_D kc_I r_fp 3000 kc_65 [40, 53] [kc_64] []
   [] = true := by decide +kernel

set_option maxRecDepth 100000 in
theorem kk_22 : b_chk r_hk q_D kc_I r_fp 3000 kc_22 [] [kc_21] []
   [(5, [], [], [((3, [(0, 0, 7), (1, (-2147483648), 2147483647), (2, 0, 20)], [], [], []), [(0, .inr (.inl 16)), (1, .inl (false, ([(0, 1)], 0))), (2, .inl (false, ([], 2))), (3, .inl (false, ([(1, 1)], 0))), (4, .inl (false, ([(2, 1)], 0)))], ([(2, (-1))], 20))])] = true := by decide +kernel
set_option maxRecDepth 100000 in
theorem kk_23 : b_chk r_hk q_D kc_I r_fp 3000 kc_23 [] [] []
   [(28, [], [(3, 1), (3, 2)], [((3, [(0, 0, 5), (1, 4, 1200), (2, 0, 1196)], [([(1, 1), (2, (-1))], (-4))], [(3, ([], 1), (false, ([(1, 1)], 0))), (3, ([], 2), (false, ([(2, 1)], 0)))], []), [(0, .inr (.inl 3)), (1, .inr (.inr 11)), (2, .inl (false, ([(0, 1)], 0)))], ([(0, (-1))], 5))])] = true := by decide +kernel
set_option maxRecDepth 100000 in
theorem kk_24 : b_chk r_hk q_D kc_I r_fp 3000 kc_24 [] [kc_7, kc_23] []
   [] = true := by decide +kernel
set_option maxRecDepth 100000 in
theorem kk_25 : b_chk r_hk q_D kc_I r_fp 3000 kc_25 [] [] []
   [(28, [], [(3, 1), (3, 2)], [((3, [(0, 0, 5), (1, 4, 1200), (2, 0, 1196)], [([(1, 1), (2, (-1))], (-4))], [(3, ([], 1), (false, ([(1, 1)], 0))), (3, ([], 2), (false, ([(2, 1)], 0)))], []), [(0, .inr (.inl 3)), (1, .inr (.inr 10)), (2, .inl (false, ([(0, 1)], 0)))], ([(0, (-1))], 5))])] = true := by decide +kernel
set_option maxRecDepth 100000 in
theorem kk_26 : b_chk r_hk q_D kc_I r_fp 3000 kc_26 [] [kc_7, kc_25] []
   [] = true := by decide +kernel
set_option maxRecDepth 100000 in
theorem kk_27 : b_chk r_hk q_D kc_I r_fp 3000 kc_27 [] [] []
   [(28, [], [(3, 1), (3, 2)], [((3, [(0, 0, 5), (1, 4, 1200), (2, 0, 1196)], [([(1, 1), (2, (-1))], (-4))], [(3, ([], 1), (false, ([(1, 1)], 0))), (3, ([], 2), (false, ([(2, 1)], 0)))], []), [(0, .inr (.inl 3)), (1, .inr (.inr 9)), (2, .inl (false, ([(0, 1)], 0)))], ([(0, (-1))], 5))])] = true := by decide +kernel
set_option maxRecDepth 100000 in
theorem kk_28 : b_chk r_hk q_D kc_I r_fp 3000 kc_28 [] [kc_7, kc_27] []
   [] = true := by decide +kernel
set_option maxRecDepth 100000 in
theorem kk_29 : b_chk r_hk q_D kc_I r_fp 3000 kc_29 [26, 27] [kc_7, kc_22, kc_24, kc_26, kc_28] []
   [] = true := by decide +kernel
set_option maxRecDepth 100000 in
theorem kk_30 : b_chk r_hk q_D kc_I r_fp 3000 kc_30 [] [] []
   [(28, [], [(3, 1), (3, 2)], [((3, [(0, 0, 6), (1, 6, 1200), (2, 0, 1194)], [([(1, 1), (2, (-1))], (-6))], [(3, ([], 1), (false, ([(1, 1)], 0))), (3, ([], 2), (false, ([(2, 1)], 0)))], []), [(0, .inr (.inl 3)), (1, .inr (.inr 14)), (2, .inl (false, ([(0, 1)], 0)))], ([(0, (-1))], 6))])] = true := by decide +kernel
set_option maxRecDepth 100000 in
theorem kk_31 : b_chk r_hk q_D kc_I r_fp 3000 kc_31 [] [kc_7, kc_30] []
   [] = true := by decide +kernel
set_option maxRecDepth 100000 in
theorem kk_32 : b_chk r_hk q_D kc_I r_fp 3000 kc_32 [] [] []
   [(28, [], [(3, 1), (3, 2)], [((3, [(0, 0, 5), (1, 5, 1200), (2, 0, 1195)], [([(1, 1), (2, (-1))], (-5))], [(3, ([], 1), (false, ([(1, 1)], 0))), (3, ([], 2), (false, ([(2, 1)], 0)))], []), [(0, .inr (.inl 3)), (1, .inr (.inr 12)), (2, .inl (false, ([(0, 1)], 0)))], ([(0, (-1))], 5))])] = true := by decide +kernel

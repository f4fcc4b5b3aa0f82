set_option maxRecDepth 100000 in
theorem kk_33 : b_chk r_hk q_D kc_I r_fp 3000 kc_33 [] [kc_7, kc_32] []
   [] = true := by decide +kernel
set_option maxRecDepth 100000 in
theorem kk_34 : b_chk r_hk q_D kc_I r_fp 3000 kc_34 [] [] []
   [(28, [], [(3, 1), (3, 2)], [((3, [(0, 0, 5), (1, 5, 1200), (2, 0, 1195)], [([(1, 1), (2, (-1))], (-5))], [(3, ([], 1), (false, ([(1, 1)], 0))), (3, ([], 2), (false, ([(2, 1)], 0)))], []), [(0, .inr (.inl 3)), (1, .inr (.inr 15)), (2, .inl (false, ([(0, 1)], 0)))], ([(0, (-1))], 5))])] = true := by decide +kernel
set_option maxRecDepth 100000 in
theorem kk_35 : b_chk r_hk q_D kc_I r_fp 3000 kc_35 [] [kc_7, kc_34] []
   [] = true := by decide +kernel
set_option maxRecDepth 100000 in
theorem kk_36 : b_chk r_hk q_D kc_I r_fp 3000 kc_36 [] [] []
   [(28, [], [(3, 1), (3, 2)], [((3, [(0, 0, 7), (1, 7, 1200), (2, 0, 1193)], [([(1, 1), (2, (-1))], (-7))], [(3, ([], 1), (false, ([(1, 1)], 0))), (3, ([], 2), (false, ([(2, 1)], 0)))], []), [(0, .inr (.inl 3)), (1, .inr (.inr 13)), (2, .inl (false, ([(0, 1)], 0)))], ([(0, (-1))], 7))])] = true := by decide +kernel
set_option maxRecDepth 100000 in
theorem kk_37 : b_chk r_hk q_D kc_I r_fp 3000 kc_37 [] [kc_7, kc_36] []
   [] = true := by decide +kernel
set_option maxRecDepth 100000 in
theorem kk_38 : b_chk r_hk q_D kc_I r_fp 3000 kc_38 [] [] []
   [(28, [], [(3, 1), (3, 2)], [((3, [(0, 0, 3), (1, 3, 1200), (2, 0, 1197)], [([(1, 1), (2, (-1))], (-3))], [(3, ([], 1), (false, ([(1, 1)], 0))), (3, ([], 2), (false, ([(2, 1)], 0)))], []), [(0, .inr (.inl 3)), (1, .inr (.inr 18)), (2, .inl (false, ([(0, 1)], 0)))], ([(0, (-1))], 3))])] = true := by decide +kernel
set_option maxRecDepth 100000 in
theorem kk_39 : b_chk r_hk q_D kc_I r_fp 3000 kc_39 [] [] []
   [(28, [], [(3, 1), (3, 2)], [((3, [(0, 0, 8), (1, 8, 1200), (2, 0, 1192)], [([(1, 1), (2, (-1))], (-8))], [(3, ([], 1), (false, ([(1, 1)], 0))), (3, ([], 2), (false, ([(2, 1)], 0)))], []), [(0, .inr (.inl 3)), (1, .inr (.inr 17)), (2, .inl (false, ([(0, 1)], 0)))], ([(0, (-1))], 8))])] = true := by decide +kernel
set_option maxRecDepth 100000 in
theorem kk_40 : b_chk r_hk q_D kc_I r_fp 3000 kc_40 [] [] []
   [(28, [], [(3, 1), (3, 2)], [((3, [(0, 0, 7), (1, 7, 1200), (2, 0, 1193)], [([(1, 1), (2, (-1))], (-7))], [(3, ([], 1), (false, ([(1, 1)], 0))), (3, ([], 2), (false, ([(2, 1)], 0)))], []), [(0, .inr (.inl 3)), (1, .inr (.inr 16)), (2, .inl (false, ([(0, 1)], 0)))], ([(0, (-1))], 7))])] = true := by decide +kernel
set_option maxRecDepth 100000 in
theorem kk_41 : b_chk r_hk q_D kc_I r_fp 3000 kc_41 [26] [kc_7, kc_38, kc_39, kc_40] []
   [] = true := by decide +kernel
set_option maxRecDepth 100000 in
theorem kk_42 : b_chk r_hk q_D kc_I r_fp 3000 kc_42 [26] [kc_7, kc_31, kc_33, kc_35, kc_37, kc_41] []
   [] = true := by decide +kernel
set_option maxRecDepth 100000 in
theorem kk_43 : b_chk r_hk q_D kc_I r_fp 3000 kc_43 [26, 27] [kc_7] []
   [] = true := by decide +kernel

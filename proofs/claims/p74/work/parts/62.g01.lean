set_option maxRecDepth 100000 in
theorem kk_11 : b_chk r_hk q_D kc_I r_fp 3000 kc_11 [26] [kc_7, kc_10] []
   [] = true := by decide +kernel
set_option maxRecDepth 100000 in
theorem kk_12 : b_chk r_hk q_D kc_I r_fp 3000 kc_12 [] [] []
   [(28, [], [(3, 1), (3, 2)], [((3, [(0, 0, 5), (1, 4, 1200), (2, 0, 1196)], [([(1, 1), (2, (-1))], (-4))], [(3, ([], 1), (false, ([(1, 1)], 0))), (3, ([], 2), (false, ([(2, 1)], 0)))], []), [(0, .inr (.inl 3)), (1, .inr (.inr 6)), (2, .inl (false, ([(0, 1)], 0)))], ([(0, (-1))], 5))])] = true := by decide +kernel
set_option maxRecDepth 100000 in
theorem kk_13 : b_chk r_hk q_D kc_I r_fp 3000 kc_13 [26] [kc_7, kc_12] []
   [] = true := by decide +kernel
set_option maxRecDepth 100000 in
theorem kk_14 : b_chk r_hk q_D kc_I r_fp 3000 kc_14 [26, 27] [kc_7, kc_9, kc_11, kc_13] []
   [] = true := by decide +kernel
set_option maxRecDepth 100000 in
theorem kk_15 : b_chk r_hk q_D kc_I r_fp 3000 kc_15 [] [] []
   [(28, [], [(3, 1), (3, 2)], [((3, [(0, 0, 3), (1, 3, 1200), (2, 0, 1197)], [([(1, 1), (2, (-1))], (-3))], [(3, ([], 1), (false, ([(1, 1)], 0))), (3, ([], 2), (false, ([(2, 1)], 0)))], []), [(0, .inr (.inl 3)), (1, .inr (.inr 4)), (2, .inl (false, ([(0, 1)], 0)))], ([(0, (-1))], 3))])] = true := by decide +kernel
set_option maxRecDepth 100000 in
theorem kk_16 : b_chk r_hk q_D kc_I r_fp 3000 kc_16 [] [] []
   [(28, [], [(3, 1), (3, 2)], [((3, [(0, 0, 3), (1, 3, 1200), (2, 0, 1197)], [([(1, 1), (2, (-1))], (-3))], [(3, ([], 1), (false, ([(1, 1)], 0))), (3, ([], 2), (false, ([(2, 1)], 0)))], []), [(0, .inr (.inl 3)), (1, .inr (.inr 3)), (2, .inl (false, ([(0, 1)], 0)))], ([(0, (-1))], 3))])] = true := by decide +kernel
set_option maxRecDepth 100000 in
theorem kk_17 : b_chk r_hk q_D kc_I r_fp 3000 kc_17 [] [] []
   [(28, [], [(3, 1), (3, 2)], [((3, [(0, 0, 5), (1, 4, 1200), (2, 0, 1196)], [([(1, 1), (2, (-1))], (-4))], [(3, ([], 1), (false, ([(1, 1)], 0))), (3, ([], 2), (false, ([(2, 1)], 0)))], []), [(0, .inr (.inl 3)), (1, .inr (.inr 2)), (2, .inl (false, ([(0, 1)], 0)))], ([(0, (-1))], 5))])] = true := by decide +kernel
set_option maxRecDepth 100000 in
theorem kk_18 : b_chk r_hk q_D kc_I r_fp 3000 kc_18 [] [] []
   [(28, [], [(3, 1), (3, 2)], [((3, [(0, 0, 5), (1, 5, 1200), (2, 0, 1195)], [([(1, 1), (2, (-1))], (-5))], [(3, ([], 1), (false, ([(1, 1)], 0))), (3, ([], 2), (false, ([(2, 1)], 0)))], []), [(0, .inr (.inl 3)), (1, .inr (.inr 1)), (2, .inl (false, ([(0, 1)], 0)))], ([(0, (-1))], 5))])] = true := by decide +kernel
set_option maxRecDepth 100000 in
theorem kk_19 : b_chk r_hk q_D kc_I r_fp 3000 kc_19 [] [] []
   [(28, [], [(3, 1), (3, 2)], [((3, [(0, 0, 5), (1, 4, 1200), (2, 0, 1196)], [([(1, 1), (2, (-1))], (-4))], [(3, ([], 1), (false, ([(1, 1)], 0))), (3, ([], 2), (false, ([(2, 1)], 0)))], []), [(0, .inr (.inl 3)), (1, .inr (.inr 5)), (2, .inl (false, ([(0, 1)], 0)))], ([(0, (-1))], 5))])] = true := by decide +kernel
set_option maxRecDepth 100000 in
theorem kk_20 : b_chk r_hk q_D kc_I r_fp 3000 kc_20 [26] [kc_7] []
   [] = true := by decide +kernel
set_option maxRecDepth 100000 in
theorem kk_21 : b_chk r_hk q_D kc_I r_fp 3000 kc_21 [] [] []
   [] = true := by decide +kernel

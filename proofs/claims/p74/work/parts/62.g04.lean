set_option maxRecDepth 100000 in
theorem kk_44 : b_chk r_hk q_D kc_I r_fp 3000 kc_44 [26] [kc_7] []
   [] = true := by decide +kernel
set_option maxRecDepth 100000 in
theorem kk_45 : b_chk r_hk q_D kc_I r_fp 3000 kc_45 [26] [kc_14, kc_15, kc_16, kc_17, kc_18, kc_19, kc_20, kc_29, kc_42, kc_43, kc_44] []
   [] = true := by decide +kernel
set_option maxRecDepth 100000 in
theorem kk_46 : b_chk r_hk q_D kc_I r_fp 3000 kc_46 [] [kc_4, kc_7, kc_45] []
   [(25, [], [], [((1, [(0, 0, 1200)], [], [], []), [(0, .inr (.inl 3)), (1, .inr (.inl 16)), (2, .inl (false, ([(0, 1)], 0)))], ([(0, (-1))], 1200))])] = true := by decide +kernel
set_option maxRecDepth 100000 in
theorem kk_47 : b_chk r_hk q_D kc_I r_fp 3000 kc_47 [] [] []
   [] = true := by decide +kernel
set_option maxRecDepth 100000 in
theorem kk_48 : b_chk r_hk q_D kc_I r_fp 3000 kc_48 [] [kc_46, kc_47] []
   [] = true := by decide +kernel
set_option maxRecDepth 100000 in
theorem kk_49 : b_chk r_hk q_D kc_I r_fp 3000 kc_49 [] [] []
   [] = true := by decide +kernel
set_option maxRecDepth 100000 in
theorem kk_50 : b_chk r_hk q_D kc_I r_fp 3000 kc_50 [40] [] []
   [] = true := by decide +kernel
set_option maxRecDepth 100000 in
theorem kk_51 : b_chk r_hk q_D kc_I r_fp 3000 kc_51 [] [] []
   [] = true := by decide +kernel
set_option maxRecDepth 100000 in
theorem kk_52 : b_chk r_hk q_D kc_I r_fp 3000 kc_52 [] [kc_51] []
   [(5, [], [], [((4, [(0, 0, 7), (1, (-2147483648), 2147483647), (2, (-2147483648), 2147483647), (3, 0, 20)], [], [], []), [(0, .inr (.inl 4)), (1, .inl (false, ([(0, 1)], 0))), (2, .inl (false, ([(1, 1)], 0))), (3, .inl (false, ([(2, 1)], 0))), (4, .inl (false, ([(3, 1)], 0)))], ([(3, (-1))], 20))])] = true := by decide +kernel
set_option maxRecDepth 100000 in
theorem kk_53 : b_chk r_hk q_D kc_I r_fp 3000 kc_53 [] [] []
   [] = true := by decide +kernel
set_option maxRecDepth 100000 in
theorem kk_54 : b_chk r_hk q_D kc_I r_fp 3000 kc_54 [] [kc_53] []
   [] = true := by decide +kernel

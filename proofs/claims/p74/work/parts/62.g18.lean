set_option maxRecDepth 100000 in
theorem kk_198 : b_chk r_hk q_D kc_I r_fp 3000 kc_198 [51] [kc_68, kc_87, kc_88] []
   [(31, [], [], [((3, [(0, (-2147483648), 2147483647), (1, (-1), 2147483647), (2, 0, 20)], [], [], []), [(0, .inr (.inl 0)), (1, .inl (false, ([(0, 1)], 0))), (2, .inl (false, ([(1, 1)], 0))), (3, .inl (false, ([(2, 1)], 0)))], ([(2, (-1))], 20))])] = true := by decide +kernel
set_option maxRecDepth 100000 in
theorem kk_199 : b_chk r_hk q_D kc_I r_fp 3000 kc_199 [21, 42, 81] [] []
   [(22, [], [], [((4, [(0, 0, 7), (1, (-1), 2147483647), (2, (-2147483648), 99), (3, 0, 20)], [], [], []), [(0, .inr (.inl 0)), (1, .inl (false, ([(0, 1)], 0))), (2, .inl (false, ([(1, 1)], 0))), (3, .inl (false, ([(2, 1)], 0))), (4, .inl (false, ([(3, 1)], 0)))], ([(3, (-1))], 20))])] = true := by decide +kernel
set_option maxRecDepth 100000 in
theorem kk_200 : b_chk r_hk q_D kc_I r_fp 3000 kc_200 [121] [kc_62, kc_69] []
   [] = true := by decide +kernel
set_option maxRecDepth 100000 in
theorem kk_201 : b_chk r_hk q_D kc_I r_fp 3000 kc_201 [53] [kc_93, kc_200] []
   [(25, [], [], [((3, [(0, 0, 5), (1, (-2147483648), 2147483647), (2, 0, 20)], [], [], []), [(0, .inr (.inl 0)), (1, .inl (false, ([(0, 1)], 0))), (2, .inl (false, ([(1, 1)], 0))), (3, .inl (false, ([(2, 1)], 0)))], ([(2, (-21))], 440))]),
    (41, [], [], [((4, [(0, 0, 5), (1, (-2147483648), 2147483647), (2, 0, 19), (3, 1, 20)], [], [], []), [(0, .inr (.inl 0)), (1, .inl (false, ([(0, 1)], 0))), (2, .inl (false, ([(1, 1)], 0))), (3, .inl (false, ([(2, 1)], 0))), (4, .inl (false, ([(3, 1)], 0)))], ([(2, (-21)), (3, (-1))], 440))])] = true := by decide +kernel
set_option maxRecDepth 100000 in
theorem kk_202 : b_chk r_hk q_D kc_I r_fp 3000 kc_202 [40] [kc_54, kc_55, kc_68, kc_71] []
   [] = true := by decide +kernel
set_option maxRecDepth 100000 in
theorem kk_203 : b_chk r_hk q_D kc_I r_fp 3000 kc_203 [] [] []
   [(5, [], [], [((1, [(0, 0, 6719)], [], [], []), [(0, .inr (.inl 35)), (1, .inl (false, ([], 0))), (2, .inl (false, ([(0, 1)], 0))), (3, .inl (false, ([], 5061)))], ([(0, (-1))], 6719))])] = true := by decide +kernel
set_option maxRecDepth 100000 in
theorem kk_204 : b_chk r_hk q_D kc_I r_fp 3000 kc_204 [] [kc_69] []
   [] = true := by decide +kernel
set_option maxRecDepth 100000 in
theorem kk_205 : b_chk r_hk q_D kc_I r_fp 3000 kc_205 [] [kc_204] []
   [(12, [], [], [((4, [(0, 1, 20), (1, (-2147483648), 240), (2, 0, 42), (3, 1, 21)], [], [], []), [(0, .inr (.inl 32)), (1, .inl (false, ([(0, 1)], 0))), (2, .inl (false, ([(1, 1)], 0))), (3, .inl (false, ([(2, 1)], 0))), (4, .inl (false, ([(3, 1)], 0)))], ([(3, (-243))], 5345))]),
    (21, [], [], [((5, [(0, 1, 20), (1, (-2147483648), 240), (2, 0, 42), (3, 1, 20), (4, 0, 241)], [], [], []), [(0, .inr (.inl 32)), (1, .inl (false, ([(0, 1)], 0))), (2, .inl (false, ([(1, 1)], 0))), (3, .inl (false, ([(2, 1)], 0))), (4, .inl (false, ([(3, 1)], 0))), (5, .inl (false, ([(4, 1)], 0)))], ([(3, (-243)), (4, (-1))], 5344))])] = true := by decide +kernel
set_option maxRecDepth 100000 in
theorem kk_206 : b_chk r_hk q_D kc_I r_fp 3000 kc_206 [21] [kc_54, kc_70, kc_73, kc_203, kc_205] []
   [(19, [], [(32, 5)], [((3, [(0, (-2147483648), 2147483647), (1, 0, 20), (2, 0, 20)], [([(1, 1), (2, (-1))], 0)], [(32, ([], 5), (false, ([(2, 1)], 0)))], []), [(0, .inr (.inl 32)), (1, .inl (false, ([(0, 1)], 0))), (2, .inl (false, ([(1, 1)], 0)))], ([(1, (-1))], 41))]),
    (113, [], [], [((3, [(0, (-2147483648), 2147483647), (1, (-2147483648), 2147483647), (2, 1, 21)], [], [], []), [(0, .inr (.inl 32)), (1, .inl (false, ([(0, 1)], 0))), (2, .inl (false, ([(1, 1)], 0))), (3, .inl (false, ([(2, 1)], 0)))], ([(2, (-1))], 21))])] = true := by decide +kernel
set_option maxRecDepth 100000 in
theorem kk_207 : b_chk r_hk q_D kc_I r_fp 3000 kc_207 [] [kc_163] []
   [] = true := by decide +kernel
set_option maxRecDepth 100000 in
theorem kk_208 : b_chk r_hk q_D kc_I r_fp 3000 kc_208 [21] [kc_204, kc_207] []
   [(6, [], [], [((3, [(0, 0, 20), (1, (-2147483648), 241), (2, 0, 241)], [], [], []), [(0, .inr (.inl 32)), (1, .inl (false, ([(0, 1)], 0))), (2, .inl (false, ([(1, 1)], 0))), (3, .inl (false, ([(2, 1)], 0)))], ([(2, (-1))], 241))])] = true := by decide +kernel

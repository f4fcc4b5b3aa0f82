set_option maxRecDepth 100000 in
theorem kk_209 : b_chk r_hk q_D kc_I r_fp 3000 kc_209 [] [kc_204] []
   [(14, [], [], [((6, [(0, 0, 20), (1, 0, 240), (2, (-2147483648), 2147483647), (3, (-20), 20), (4, (-840), 240), (5, 0, 20)], [([(4, 1), (5, (-42))], 840), ([(3, 1), (5, (-1))], 20)], [], []), [(0, .inr (.inl 32)), (1, .inl (false, ([(0, 1)], 0))), (2, .inl (false, ([(1, 1)], 0))), (3, .inl (false, ([(2, 1)], 0))), (4, .inl (false, ([(3, 1)], 0))), (5, .inl (false, ([(4, 1)], 0))), (6, .inl (false, ([(5, 1)], 0)))], ([(5, 1)], 0))])] = true := by decide +kernel
set_option maxRecDepth 100000 in
theorem kk_210 : b_chk r_hk q_D kc_I r_fp 3000 kc_210 [21] [kc_204, kc_207, kc_209] []
   [(5, [], [], [((4, [(0, 0, 20), (1, (-2147483648), 241), (2, (-2147483648), 2147483647), (3, 0, 241)], [], [], []), [(0, .inr (.inl 32)), (1, .inl (false, ([(0, 1)], 0))), (2, .inl (false, ([(1, 1)], 0))), (3, .inl (false, ([(2, 1)], 0))), (4, .inl (false, ([(3, 1)], 0)))], ([(3, (-1))], 241))])] = true := by decide +kernel
set_option maxRecDepth 100000 in
theorem kk_211 : b_chk r_hk q_D kc_I r_fp 3000 kc_211 [51] [kc_55, kc_57, kc_68, kc_75, kc_206, kc_208, kc_210] []
   [] = true := by decide +kernel
set_option maxRecDepth 100000 in
theorem kk_212 : b_chk r_hk q_D kc_I r_fp 3000 kc_212 [51] [kc_68, kc_206, kc_208] []
   [(30, [], [], [((2, [(0, (-2147483648), 2147483647), (1, 0, 21)], [], [], []), [(0, .inr (.inl 0)), (1, .inl (false, ([(0, 1)], 0))), (2, .inl (false, ([(1, 1)], 0)))], ([(1, (-1))], 21))])] = true := by decide +kernel
set_option maxRecDepth 100000 in
theorem kk_213 : b_chk r_hk q_D kc_I r_fp 3000 kc_213 [] [] []
   [] = true := by decide +kernel
set_option maxRecDepth 100000 in
theorem kk_214 : b_chk r_hk q_D kc_I r_fp 3000 kc_214 [40] [kc_55, kc_68, kc_71, kc_213] []
   [] = true := by decide +kernel
set_option maxRecDepth 100000 in
theorem kk_215 : b_chk r_hk q_D kc_I r_fp 3000 kc_215 [] [] []
   [] = true := by decide +kernel
set_option maxRecDepth 100000 in
theorem kk_216 : b_chk r_hk q_D kc_I r_fp 3000 kc_216 [] [kc_54] []
   [(9, [], [], [((5, [(0, (-2147483648), 2147483647), (1, (-2147483648), 2147483647), (2, (-2147483648), 2147483647), (3, 0, 1048575), (4, 0, 20)], [], [], []), [(0, .inr (.inl 0)), (1, .inl (false, ([(0, 1)], 0))), (2, .inl (false, ([(1, 1)], 0))), (3, .inl (true, ([(2, 1)], 0))), (5, .inl (false, ([(3, 1)], 0))), (6, .inl (false, ([(4, 1)], 0)))], ([(4, (-1))], 20))])] = true := by decide +kernel
set_option maxRecDepth 100000 in
theorem kk_217 : b_chk r_hk q_D kc_I r_fp 3000 kc_217 [51] [kc_57, kc_71, kc_102, kc_215, kc_216] []
   [] = true := by decide +kernel
set_option maxRecDepth 100000 in
theorem kk_218 : b_chk r_hk q_D kc_I r_fp 3000 kc_218 [42] [kc_69, kc_102, kc_215, kc_216] []
   [(40, [], [], [((6, [(0, (-2147483648), 2147483647), (1, 1, 20), (2, (-2147483648), 2147483647), (3, 0, 7), (4, (-2147483648), 2147483647), (5, 0, 20)], [], [], []), [(0, .inr (.inl 0)), (1, .inl (false, ([(0, 1)], 0))), (2, .inl (false, ([(1, 1)], 0))), (3, .inl (false, ([(2, 1)], 0))), (4, .inl (false, ([(3, 1)], 0))), (5, .inl (false, ([(4, 1)], 0))), (6, .inl (false, ([(5, 1)], 0)))], ([(5, (-1))], 20))])] = true := by decide +kernel
set_option maxRecDepth 100000 in
theorem kk_219 : b_chk r_hk q_D kc_I r_fp 3000 kc_219 [143] [] []
   [(4, [], [], [((2, [(0, (-2147483648), 2147483647), (1, 0, 5)], [], [], []), [(0, .inr (.inl 0)), (1, .inl (false, ([(0, 1)], 0))), (2, .inl (false, ([(1, 1)], 0)))], ([(1, (-1))], 5))])] = true := by decide +kernel

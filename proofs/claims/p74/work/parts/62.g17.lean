set_option maxRecDepth 100000 in
theorem kk_187 : b_chk r_hk q_D kc_I r_fp 3000 kc_187 [40] [kc_62] []
   [(18, [], [], [((3, [(0, 0, 19), (1, (-2147483648), 2147483647), (2, 0, 20)], [], [], []), [(0, .inr (.inl 0)), (1, .inl (false, ([(0, 1)], 0))), (2, .inl (false, ([(1, 1)], 0))), (3, .inl (false, ([(2, 1)], 0)))], ([(2, (-1))], 20))])] = true := by decide +kernel
set_option maxRecDepth 100000 in
theorem kk_188 : b_chk r_hk q_D kc_I r_fp 3000 kc_188 [] [] []
   [(4, [], [], [((3, [(0, 0, 7), (1, (-2147483648), 2147483647), (2, 0, 20)], [], [], []), [(0, .inr (.inl 4)), (1, .inl (false, ([(0, 1)], 0))), (2, .inl (false, ([(1, 1)], 0))), (3, .inl (false, ([(2, 1)], 0)))], ([(2, (-1))], 20))])] = true := by decide +kernel
set_option maxRecDepth 100000 in
theorem kk_189 : b_chk r_hk q_D kc_I r_fp 3000 kc_189 [42] [kc_52, kc_75, kc_78, kc_188] []
   [] = true := by decide +kernel
set_option maxRecDepth 100000 in
theorem kk_190 : b_chk r_hk q_D kc_I r_fp 3000 kc_190 [51] [kc_53] []
   [(27, [], [], [((3, [(0, 0, 30), (1, (-2147483648), 2147483647), (2, 0, 20)], [], [], []), [(0, .inr (.inl 0)), (1, .inl (false, ([(0, 1)], 0))), (2, .inl (false, ([(1, 1)], 0))), (3, .inl (false, ([(2, 1)], 0)))], ([(2, (-1))], 20))])] = true := by decide +kernel
set_option maxRecDepth 100000 in
theorem kk_191 : b_chk r_hk q_D kc_I r_fp 3000 kc_191 [51] [kc_57, kc_83] []
   [(19, [], [], [((3, [(0, (-1), 63), (1, 0, 30), (2, 0, 31)], [], [], []), [(0, .inr (.inl 0)), (1, .inl (false, ([(0, 1)], 0))), (2, .inl (false, ([(1, 1)], 0))), (3, .inl (false, ([(2, 1)], 0)))], ([(2, (-1))], 31))])] = true := by decide +kernel
set_option maxRecDepth 100000 in
theorem kk_192 : b_chk r_hk q_D kc_I r_fp 3000 kc_192 [] [kc_64, kc_66] []
   [(2, [], [], [((3, [(0, 0, 19), (1, 0, 19), (2, 0, 6)], [], [], []), [(0, .inr (.inl 4)), (1, .inl (false, ([(0, 1)], 0))), (2, .inl (false, ([(1, 1)], 0))), (3, .inl (false, ([(2, 1)], 0)))], ([(2, (-1))], 6))])] = true := by decide +kernel
set_option maxRecDepth 100000 in
theorem kk_193 : b_chk r_hk q_D kc_I r_fp 3000 kc_193 [40] [kc_54, kc_192] []
   [(30, [], [], [((2, [(0, 0, 19), (1, 0, 20)], [], [], []), [(0, .inr (.inl 0)), (1, .inl (false, ([(0, 1)], 0))), (2, .inl (false, ([(1, 1)], 0)))], ([(1, (-1))], 20))])] = true := by decide +kernel
set_option maxRecDepth 100000 in
theorem kk_194 : b_chk r_hk q_D kc_I r_fp 3000 kc_194 [51] [kc_54, kc_57, kc_84, kc_93, kc_106] []
   [(33, [], [], [((3, [(0, (-2147483648), 2147483647), (1, (-2147483648), 2147483647), (2, 0, 20)], [], [], []), [(0, .inr (.inl 0)), (1, .inl (false, ([(0, 1)], 0))), (2, .inl (false, ([(1, 1)], 0))), (3, .inl (false, ([(2, 1)], 0)))], ([(2, (-1))], 20))])] = true := by decide +kernel
set_option maxRecDepth 100000 in
theorem kk_195 : b_chk r_hk q_D kc_I r_fp 3000 kc_195 [42] [kc_55, kc_57, kc_58, kc_75, kc_78] []
   [] = true := by decide +kernel
set_option maxRecDepth 100000 in
theorem kk_196 : b_chk r_hk q_D kc_I r_fp 3000 kc_196 [51] [kc_58] []
   [(19, [], [], [((3, [(0, (-1), 7), (1, 0, 63), (2, 0, 8)], [], [], []), [(0, .inr (.inl 0)), (1, .inl (false, ([(0, 1)], 0))), (2, .inl (false, ([(1, 1)], 0))), (3, .inl (false, ([(2, 1)], 0)))], ([(2, (-1))], 8))])] = true := by decide +kernel
set_option maxRecDepth 100000 in
theorem kk_197 : b_chk r_hk q_D kc_I r_fp 3000 kc_197 [51] [kc_52, kc_59] []
   [(17, [], [], [((2, [(0, (-2147483648), 2147483647), (1, 0, 8)], [], [], []), [(0, .inr (.inl 0)), (1, .inl (false, ([(0, 1)], 0))), (2, .inl (false, ([(1, 1)], 0)))], ([(1, (-1))], 8))])] = true := by decide +kernel

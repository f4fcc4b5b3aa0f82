set_option maxRecDepth 100000 in
theorem kk_255 : b_chk r_hk q_D kc_I r_fp 3000 kc_255 [226, 231] [kc_254] []
   [] = true := by decide +kernel
set_option maxRecDepth 100000 in
theorem kk_256 : b_chk r_hk q_D kc_I r_fp 3000 kc_256 [226] [] []
   [(39, [(2, 1)], [(93, 8), (93, 9)], [((3, [(0, 0, 5), (1, 4, 1200), (2, 0, 1196)], [([(1, 1), (2, (-1))], (-4))], [(93, ([], 8), (false, ([(1, 1)], 0))), (93, ([], 9), (false, ([(2, 1)], 0)))], []), [(0, .inr (.inl 93)), (1, .inr (.inr 19)), (2, .inl (false, ([], 1))), (3, .inl (false, ([(0, 1)], 0)))], ([(0, (-1))], 5)), ((3, [(0, 0, 5), (1, 0, 1200), (2, 0, 1200)], [], [(93, ([], 8), (false, ([(1, 1)], 0))), (93, ([], 9), (false, ([(2, 1)], 0)))], []), [(0, .inr (.inl 93)), (1, .inr (.inr 19)), (2, .inl (false, ([], 0))), (3, .inl (false, ([(0, 1)], 0)))], ([(0, (-1))], 5))])] = true := by decide +kernel
set_option maxRecDepth 100000 in
theorem kk_258 : b_chk r_hk q_D kc_I r_fp 3000 kc_258 [] [kc_247, kc_257] []
   [] = true := by decide +kernel
set_option maxRecDepth 100000 in
theorem kk_259 : b_chk r_hk q_D kc_I r_fp 3000 kc_259 [226, 231] [kc_258] []
   [] = true := by decide +kernel
set_option maxRecDepth 100000 in
theorem kk_260 : b_chk r_hk q_D kc_I r_fp 3000 kc_260 [226] [] []
   [(39, [(2, 1)], [(93, 8), (93, 9)], [((3, [(0, 0, 3), (1, 3, 1200), (2, 0, 1197)], [([(1, 1), (2, (-1))], (-3))], [(93, ([], 8), (false, ([(1, 1)], 0))), (93, ([], 9), (false, ([(2, 1)], 0)))], []), [(0, .inr (.inl 93)), (1, .inr (.inr 32)), (2, .inl (false, ([], 1))), (3, .inl (false, ([(0, 1)], 0)))], ([(0, (-1))], 3)), ((3, [(0, 0, 3), (1, 0, 1200), (2, 0, 1200)], [], [(93, ([], 8), (false, ([(1, 1)], 0))), (93, ([], 9), (false, ([(2, 1)], 0)))], []), [(0, .inr (.inl 93)), (1, .inr (.inr 32)), (2, .inl (false, ([], 0))), (3, .inl (false, ([(0, 1)], 0)))], ([(0, (-1))], 3))])] = true := by decide +kernel
set_option maxRecDepth 100000 in
theorem kk_262 : b_chk r_hk q_D kc_I r_fp 3000 kc_262 [] [kc_247, kc_261] []
   [] = true := by decide +kernel
set_option maxRecDepth 100000 in
theorem kk_263 : b_chk r_hk q_D kc_I r_fp 3000 kc_263 [226, 231] [kc_262] []
   [] = true := by decide +kernel
set_option maxRecDepth 100000 in
theorem kk_264 : b_chk r_hk q_D kc_I r_fp 3000 kc_264 [226] [] []
   [(39, [(2, 1)], [(93, 8), (93, 9)], [((3, [(0, 0, 3), (1, 3, 1200), (2, 0, 1197)], [([(1, 1), (2, (-1))], (-3))], [(93, ([], 8), (false, ([(1, 1)], 0))), (93, ([], 9), (false, ([(2, 1)], 0)))], []), [(0, .inr (.inl 93)), (1, .inr (.inr 25)), (2, .inl (false, ([], 1))), (3, .inl (false, ([(0, 1)], 0)))], ([(0, (-1))], 3)), ((3, [(0, 0, 3), (1, 0, 1200), (2, 0, 1200)], [], [(93, ([], 8), (false, ([(1, 1)], 0))), (93, ([], 9), (false, ([(2, 1)], 0)))], []), [(0, .inr (.inl 93)), (1, .inr (.inr 25)), (2, .inl (false, ([], 0))), (3, .inl (false, ([(0, 1)], 0)))], ([(0, (-1))], 3))])] = true := by decide +kernel
set_option maxRecDepth 100000 in
theorem kk_266 : b_chk r_hk q_D kc_I r_fp 3000 kc_266 [] [kc_265] []
   [] = true := by decide +kernel
set_option maxRecDepth 100000 in
theorem kk_267 : b_chk r_hk q_D kc_I r_fp 3000 kc_267 [] [kc_247, kc_265] []
   [] = true := by decide +kernel
set_option maxRecDepth 100000 in
theorem kk_268 : b_chk r_hk q_D kc_I r_fp 3000 kc_268 [226] [] []
   [(39, [(2, 1)], [(93, 8), (93, 9)], [((3, [(0, 0, 8), (1, 8, 1200), (2, 0, 1192)], [([(1, 1), (2, (-1))], (-8))], [(93, ([], 8), (false, ([(1, 1)], 0))), (93, ([], 9), (false, ([(2, 1)], 0)))], []), [(0, .inr (.inl 93)), (1, .inr (.inr 31)), (2, .inl (false, ([], 1))), (3, .inl (false, ([(0, 1)], 0)))], ([(0, (-1))], 8)), ((3, [(0, 0, 8), (1, 0, 1200), (2, 0, 1200)], [], [(93, ([], 8), (false, ([(1, 1)], 0))), (93, ([], 9), (false, ([(2, 1)], 0)))], []), [(0, .inr (.inl 93)), (1, .inr (.inr 31)), (2, .inl (false, ([], 0))), (3, .inl (false, ([(0, 1)], 0)))], ([(0, (-1))], 8))])] = true := by decide +kernel

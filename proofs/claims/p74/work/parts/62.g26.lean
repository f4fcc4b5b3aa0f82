set_option maxRecDepth 100000 in
theorem kk_302 : b_chk r_hk q_D kc_I r_fp 3000 kc_302 [] [kc_301] []
   [] = true := by decide +kernel
set_option maxRecDepth 100000 in
theorem kk_303 : b_chk r_hk q_D kc_I r_fp 3000 kc_303 [226] [] []
   [(39, [(2, 1)], [(93, 8), (93, 9)], [((3, [(0, 0, 5), (1, 5, 1200), (2, 0, 1195)], [([(1, 1), (2, (-1))], (-5))], [(93, ([], 8), (false, ([(1, 1)], 0))), (93, ([], 9), (false, ([(2, 1)], 0)))], []), [(0, .inr (.inl 93)), (1, .inr (.inr 33)), (2, .inl (false, ([], 1))), (3, .inl (false, ([(0, 1)], 0)))], ([(0, (-1))], 5)), ((3, [(0, 0, 5), (1, 0, 1200), (2, 0, 1200)], [], [(93, ([], 8), (false, ([(1, 1)], 0))), (93, ([], 9), (false, ([(2, 1)], 0)))], []), [(0, .inr (.inl 93)), (1, .inr (.inr 33)), (2, .inl (false, ([], 0))), (3, .inl (false, ([(0, 1)], 0)))], ([(0, (-1))], 5))])] = true := by decide +kernel
set_option maxRecDepth 100000 in
theorem kk_305 : b_chk r_hk q_D kc_I r_fp 3000 kc_305 [] [kc_247, kc_304] []
   [] = true := by decide +kernel
set_option maxRecDepth 100000 in
theorem kk_306 : b_chk r_hk q_D kc_I r_fp 3000 kc_306 [] [kc_305] []
   [] = true := by decide +kernel
set_option maxRecDepth 100000 in
theorem kk_307 : b_chk r_hk q_D kc_I r_fp 3000 kc_307 [226] [] []
   [(39, [(2, 1)], [(93, 8), (93, 9)], [((3, [(0, 0, 5), (1, 5, 1200), (2, 0, 1195)], [([(1, 1), (2, (-1))], (-5))], [(93, ([], 8), (false, ([(1, 1)], 0))), (93, ([], 9), (false, ([(2, 1)], 0)))], []), [(0, .inr (.inl 93)), (1, .inr (.inr 36)), (2, .inl (false, ([], 1))), (3, .inl (false, ([(0, 1)], 0)))], ([(0, (-1))], 5)), ((3, [(0, 0, 5), (1, 0, 1200), (2, 0, 1200)], [], [(93, ([], 8), (false, ([(1, 1)], 0))), (93, ([], 9), (false, ([(2, 1)], 0)))], []), [(0, .inr (.inl 93)), (1, .inr (.inr 36)), (2, .inl (false, ([], 0))), (3, .inl (false, ([(0, 1)], 0)))], ([(0, (-1))], 5))])] = true := by decide +kernel
set_option maxRecDepth 100000 in
theorem kk_309 : b_chk r_hk q_D kc_I r_fp 3000 kc_309 [] [kc_247, kc_308] []
   [] = true := by decide +kernel
set_option maxRecDepth 100000 in
theorem kk_310 : b_chk r_hk q_D kc_I r_fp 3000 kc_310 [] [kc_309] []
   [] = true := by decide +kernel
set_option maxRecDepth 100000 in
theorem kk_311 : b_chk r_hk q_D kc_I r_fp 3000 kc_311 [226] [] []
   [(39, [(2, 1)], [(93, 8), (93, 9)], [((3, [(0, 0, 7), (1, 7, 1200), (2, 0, 1193)], [([(1, 1), (2, (-1))], (-7))], [(93, ([], 8), (false, ([(1, 1)], 0))), (93, ([], 9), (false, ([(2, 1)], 0)))], []), [(0, .inr (.inl 93)), (1, .inr (.inr 34)), (2, .inl (false, ([], 1))), (3, .inl (false, ([(0, 1)], 0)))], ([(0, (-1))], 7)), ((3, [(0, 0, 7), (1, 0, 1200), (2, 0, 1200)], [], [(93, ([], 8), (false, ([(1, 1)], 0))), (93, ([], 9), (false, ([(2, 1)], 0)))], []), [(0, .inr (.inl 93)), (1, .inr (.inr 34)), (2, .inl (false, ([], 0))), (3, .inl (false, ([(0, 1)], 0)))], ([(0, (-1))], 7))])] = true := by decide +kernel
set_option maxRecDepth 100000 in
theorem kk_313 : b_chk r_hk q_D kc_I r_fp 3000 kc_313 [] [kc_247, kc_312] []
   [] = true := by decide +kernel
set_option maxRecDepth 100000 in
theorem kk_314 : b_chk r_hk q_D kc_I r_fp 3000 kc_314 [] [kc_313] []
   [] = true := by decide +kernel
set_option maxRecDepth 100000 in
theorem kk_315 : b_chk r_hk q_D kc_I r_fp 3000 kc_315 [218, 226, 231, 232, 237] [kc_247, kc_263, kc_265, kc_266, kc_272, kc_273, kc_279, kc_281, kc_283, kc_298, kc_302, kc_306, kc_310, kc_314, kc_267, kc_274, kc_270, kc_277] []
   [] = true := by decide +kernel

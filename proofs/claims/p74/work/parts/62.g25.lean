set_option maxRecDepth 100000 in
theorem kk_288 : b_chk r_hk q_D kc_I r_fp 3000 kc_288 [] [kc_247, kc_287] []
   [] = true := by decide +kernel
set_option maxRecDepth 100000 in
theorem kk_289 : b_chk r_hk q_D kc_I r_fp 3000 kc_289 [] [kc_288] []
   [] = true := by decide +kernel
set_option maxRecDepth 100000 in
theorem kk_290 : b_chk r_hk q_D kc_I r_fp 3000 kc_290 [226] [] []
   [(39, [(2, 1)], [(93, 8), (93, 9)], [((3, [(0, 0, 5), (1, 4, 1200), (2, 0, 1196)], [([(1, 1), (2, (-1))], (-4))], [(93, ([], 8), (false, ([(1, 1)], 0))), (93, ([], 9), (false, ([(2, 1)], 0)))], []), [(0, .inr (.inl 93)), (1, .inr (.inr 28)), (2, .inl (false, ([], 1))), (3, .inl (false, ([(0, 1)], 0)))], ([(0, (-1))], 5)), ((3, [(0, 0, 5), (1, 0, 1200), (2, 0, 1200)], [], [(93, ([], 8), (false, ([(1, 1)], 0))), (93, ([], 9), (false, ([(2, 1)], 0)))], []), [(0, .inr (.inl 93)), (1, .inr (.inr 28)), (2, .inl (false, ([], 0))), (3, .inl (false, ([(0, 1)], 0)))], ([(0, (-1))], 5))])] = true := by decide +kernel
set_option maxRecDepth 100000 in
theorem kk_292 : b_chk r_hk q_D kc_I r_fp 3000 kc_292 [] [kc_247, kc_291] []
   [] = true := by decide +kernel
set_option maxRecDepth 100000 in
theorem kk_293 : b_chk r_hk q_D kc_I r_fp 3000 kc_293 [] [kc_292] []
   [] = true := by decide +kernel
set_option maxRecDepth 100000 in
theorem kk_294 : b_chk r_hk q_D kc_I r_fp 3000 kc_294 [226] [] []
   [(39, [(2, 1)], [(93, 8), (93, 9)], [((3, [(0, 0, 5), (1, 4, 1200), (2, 0, 1196)], [([(1, 1), (2, (-1))], (-4))], [(93, ([], 8), (false, ([(1, 1)], 0))), (93, ([], 9), (false, ([(2, 1)], 0)))], []), [(0, .inr (.inl 93)), (1, .inr (.inr 27)), (2, .inl (false, ([], 1))), (3, .inl (false, ([(0, 1)], 0)))], ([(0, (-1))], 5)), ((3, [(0, 0, 5), (1, 0, 1200), (2, 0, 1200)], [], [(93, ([], 8), (false, ([(1, 1)], 0))), (93, ([], 9), (false, ([(2, 1)], 0)))], []), [(0, .inr (.inl 93)), (1, .inr (.inr 27)), (2, .inl (false, ([], 0))), (3, .inl (false, ([(0, 1)], 0)))], ([(0, (-1))], 5))])] = true := by decide +kernel
set_option maxRecDepth 100000 in
theorem kk_296 : b_chk r_hk q_D kc_I r_fp 3000 kc_296 [] [kc_247, kc_295] []
   [] = true := by decide +kernel
set_option maxRecDepth 100000 in
theorem kk_297 : b_chk r_hk q_D kc_I r_fp 3000 kc_297 [] [kc_296] []
   [] = true := by decide +kernel
set_option maxRecDepth 100000 in
theorem kk_298 : b_chk r_hk q_D kc_I r_fp 3000 kc_298 [218, 226, 231, 232] [kc_247, kc_285, kc_289, kc_293, kc_297, kc_278] []
   [] = true := by decide +kernel
set_option maxRecDepth 100000 in
theorem kk_299 : b_chk r_hk q_D kc_I r_fp 3000 kc_299 [226] [] []
   [(39, [(2, 1)], [(93, 8), (93, 9)], [((3, [(0, 0, 6), (1, 6, 1200), (2, 0, 1194)], [([(1, 1), (2, (-1))], (-6))], [(93, ([], 8), (false, ([(1, 1)], 0))), (93, ([], 9), (false, ([(2, 1)], 0)))], []), [(0, .inr (.inl 93)), (1, .inr (.inr 35)), (2, .inl (false, ([], 1))), (3, .inl (false, ([(0, 1)], 0)))], ([(0, (-1))], 6)), ((3, [(0, 0, 6), (1, 0, 1200), (2, 0, 1200)], [], [(93, ([], 8), (false, ([(1, 1)], 0))), (93, ([], 9), (false, ([(2, 1)], 0)))], []), [(0, .inr (.inl 93)), (1, .inr (.inr 35)), (2, .inl (false, ([], 0))), (3, .inl (false, ([(0, 1)], 0)))], ([(0, (-1))], 6))])] = true := by decide +kernel
set_option maxRecDepth 100000 in
theorem kk_301 : b_chk r_hk q_D kc_I r_fp 3000 kc_301 [] [kc_247, kc_300] []
   [] = true := by decide +kernel

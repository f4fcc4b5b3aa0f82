set_option maxRecDepth 100000 in
theorem kk_386 : b_chk r_hk q_D kc_I r_fp 3000 kc_386 [218, 239, 249, 252, 294, 295] [] []
   [(46, [], [], [((1, [(0, 0, 20)], [], [], [(74, [([(0, 3)], 0)])]), [(0, .inr (.inl 93)), (1, .inl (false, ([], 0))), (2, .inl (false, ([(0, 3)], 0)))], ([(0, (-3))], 60))])] = true := by decide +kernel
set_option maxRecDepth 100000 in
theorem kk_387 : b_chk r_hk q_D kc_I r_fp 3000 kc_387 [218, 239, 249, 252, 294, 295] [] []
   [(46, [], [], [((1, [(0, 0, 20)], [], [], [(75, [([(0, 3)], 0)])]), [(0, .inr (.inl 93)), (1, .inl (false, ([], 1))), (2, .inl (false, ([(0, 3)], 0)))], ([(0, (-3))], 60))])] = true := by decide +kernel
set_option maxRecDepth 100000 in
theorem kk_388 : b_chk r_hk q_D kc_I r_fp 3000 kc_388 [218, 239, 249, 252, 294, 295] [] []
   [(46, [], [], [((1, [(0, 0, 20)], [], [], [(76, [([(0, 3)], 0)])]), [(0, .inr (.inl 93)), (1, .inl (false, ([], 2))), (2, .inl (false, ([(0, 3)], 0)))], ([(0, (-3))], 60))])] = true := by decide +kernel
set_option maxRecDepth 100000 in
theorem kk_389 : b_chk r_hk q_D kc_I r_fp 3000 kc_389 [218, 239, 249, 252, 294, 295] [] []
   [(46, [], [], [((1, [(0, 0, 20)], [], [], [(77, [([(0, 3)], 0)])]), [(0, .inr (.inl 93)), (1, .inl (false, ([], 3))), (2, .inl (false, ([(0, 3)], 0)))], ([(0, (-3))], 60))])] = true := by decide +kernel
set_option maxRecDepth 100000 in
theorem kk_390 : b_chk r_hk q_D kc_I r_fp 3000 kc_390 [295, 311] [kc_328] []
   [(5, [], [], [((3, [(0, (-1), 19), (1, (-2147483648), 2147483647), (2, 0, 20)], [], [], [(70, [])]), [(0, .inr (.inl 93)), (1, .inl (false, ([], 0))), (2, .inl (false, ([(0, 1)], 0))), (3, .inl (false, ([(1, 1)], 0))), (4, .inl (false, ([(2, 3)], 0)))], ([(2, (-3))], 60))])] = true := by decide +kernel
set_option maxRecDepth 100000 in
theorem kk_391 : b_chk r_hk q_D kc_I r_fp 3000 kc_391 [295, 311] [kc_328] []
   [(5, [], [], [((3, [(0, (-1), 19), (1, (-2147483648), 2147483647), (2, 0, 20)], [], [], [(71, [])]), [(0, .inr (.inl 93)), (1, .inl (false, ([], 1))), (2, .inl (false, ([(0, 1)], 0))), (3, .inl (false, ([(1, 1)], 0))), (4, .inl (false, ([(2, 3)], 0)))], ([(2, (-3))], 60))])] = true := by decide +kernel
set_option maxRecDepth 100000 in
theorem kk_392 : b_chk r_hk q_D kc_I r_fp 3000 kc_392 [295, 311] [kc_328] []
   [(5, [], [], [((3, [(0, (-1), 19), (1, (-2147483648), 2147483647), (2, 0, 20)], [], [], [(72, [])]), [(0, .inr (.inl 93)), (1, .inl (false, ([], 2))), (2, .inl (false, ([(0, 1)], 0))), (3, .inl (false, ([(1, 1)], 0))), (4, .inl (false, ([(2, 3)], 0)))], ([(2, (-3))], 60))])] = true := by decide +kernel
set_option maxRecDepth 100000 in
theorem kk_393 : b_chk r_hk q_D kc_I r_fp 3000 kc_393 [295, 311] [kc_328] []
   [(5, [], [], [((3, [(0, (-1), 19), (1, (-2147483648), 2147483647), (2, 0, 20)], [], [], [(73, [])]), [(0, .inr (.inl 93)), (1, .inl (false, ([], 3))), (2, .inl (false, ([(0, 1)], 0))), (3, .inl (false, ([(1, 1)], 0))), (4, .inl (false, ([(2, 3)], 0)))], ([(2, (-3))], 60))])] = true := by decide +kernel
set_option maxRecDepth 100000 in
theorem kk_394 : b_chk r_hk q_D kc_I r_fp 3000 kc_394 [] [kc_386, kc_390, kc_387, kc_391, kc_388, kc_392, kc_389, kc_393, kc_384, kc_385] [(309, 1, [0, 1, 2, 3, 4]), (310, 1, [0, 1, 2, 3, 4])]
   [] = true := by decide +kernel
set_option maxRecDepth 100000 in
theorem kk_395 : b_chk r_hk q_D kc_I r_fp 3000 kc_395 [] [kc_386, kc_390, kc_387, kc_391, kc_388, kc_392, kc_389, kc_393, kc_384, kc_385] [(309, 1, [0, 1, 2, 3, 4]), (310, 1, [0, 1, 2, 3, 4])]
   [(17, [(1, 1), (1, 2), (1, 3)], [], [((2, [(0, (-1), 19), (1, 0, 20)], [], [], [(73, [])]), [(0, .inr (.inl 93)), (1, .inl (false, ([], 3))), (2, .inl (false, ([], 0))), (3, .inl (false, ([(0, 1)], 0))), (4, .inl (false, ([(1, 1)], 0)))], ([(1, (-1))], 20)), ((2, [(0, (-1), 19), (1, 0, 20)], [], [], [(72, [])]), [(0, .inr (.inl 93)), (1, .inl (false, ([], 2))), (2, .inl (false, ([], 0))), (3, .inl (false, ([(0, 1)], 0))), (4, .inl (false, ([(1, 1)], 0)))], ([(1, (-1))], 20)), ((2, [(0, (-1), 19), (1, 0, 20)], [], [], [(71, [])]), [(0, .inr (.inl 93)), (1, .inl (false, ([], 1))), (2, .inl (false, ([], 0))), (3, .inl (false, ([(0, 1)], 0))), (4, .inl (false, ([(1, 1)], 0)))], ([(1, (-1))], 20)), ((2, [(0, (-1), 19), (1, 0, 20)], [], [], [(70, [])]), [(0, .inr (.inl 93)), (1, .inl (false, ([], 0))), (2, .inl (false, ([], 0))), (3, .inl (false, ([(0, 1)], 0))), (4, .inl (false, ([(1, 1)], 0)))], ([(1, (-1))], 20))])] = true := by decide +kernel
set_option maxRecDepth 100000 in
theorem kk_396 : b_chk r_hk q_D kc_I r_fp 3000 kc_396 [218, 239, 252] [kc_327, kc_331] []
   [(37, [], [], [((4, [(0, 0, 19), (1, 0, 5), (2, (-2147483648), 2147483647), (3, 0, 20)], [], [], []), [(0, .inr (.inl 93)), (1, .inl (false, ([(0, 1)], 0))), (2, .inl (false, ([(1, 1)], 0))), (3, .inl (false, ([(2, 1)], 0))), (4, .inl (false, ([(3, 1)], 0)))], ([(3, (-1))], 20))])] = true := by decide +kernel

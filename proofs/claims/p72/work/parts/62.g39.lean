set_option maxRecDepth 100000 in
theorem kk_453 : b_chk r_hk q_D kc_I r_fp 3000 kc_453 [218, 294] [] []
   [(52, [], [], [((4, [(0, 0, 3), (1, 0, 3), (2, 0, 60), (3, 0, 60)], [], [], []), [(0, .inr (.inl 93)), (1, .inl (false, ([(0, 1)], 0))), (2, .inl (false, ([(1, 1)], 0))), (3, .inl (false, ([(2, 1)], 0))), (4, .inl (false, ([(3, 1)], 0)))], ([(3, (-1))], 60))])] = true := by decide +kernel
set_option maxRecDepth 100000 in
theorem kk_454 : b_chk r_hk q_D kc_I r_fp 3000 kc_454 [] [] []
   [] = true := by decide +kernel
set_option maxRecDepth 100000 in
theorem kk_455 : b_chk r_hk q_D kc_I r_fp 3000 kc_455 [218, 294] [kc_454] []
   [] = true := by decide +kernel
set_option maxRecDepth 100000 in
theorem kk_456 : b_chk r_hk q_D kc_I r_fp 3000 kc_456 [218, 294] [] []
   [(113, [], [], [((6, [(0, 0, 3), (1, 0, 60), (2, 0, 3), (3, 0, 60), (4, 0, 60), (5, 0, 60)], [([(1, (-1)), (4, (-1))], 60), ([(3, (-1)), (4, (-1))], 60)], [], []), [(0, .inr (.inl 93)), (1, .inl (false, ([(0, 1)], 0))), (2, .inl (false, ([(1, 1)], 0))), (3, .inl (false, ([(2, 1)], 0))), (4, .inl (false, ([(3, 1)], 0))), (5, .inl (false, ([(4, 1)], 0))), (6, .inl (false, ([(5, 1)], 0)))], ([(5, (-1))], 121))]),
    (150, [], [], [((6, [(0, 0, 3), (1, 0, 60), (2, 0, 3), (3, 0, 60), (4, 0, 60), (5, 0, 60)], [([(1, (-1)), (4, (-1))], 60), ([(3, (-1)), (4, (-1))], 60)], [], []), [(0, .inr (.inl 93)), (1, .inl (false, ([(0, 1)], 0))), (2, .inl (false, ([(1, 1)], 0))), (3, .inl (false, ([(2, 1)], 0))), (4, .inl (false, ([(3, 1)], 0))), (5, .inl (false, ([(4, 1)], 0))), (6, .inl (false, ([(5, 1)], 0)))], ([(5, (-1))], 60))])] = true := by decide +kernel

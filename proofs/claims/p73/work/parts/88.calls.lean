def l_cs : List l_C := [(10, [(0, 0), (3, 1), (3, 2), (3, 3), (3, 4), (3, 5)], (4, 0), (0, 0)),
  (220, [(0, 93), (3, 1), (3, 2), (3, 3), (3, 4), (3, 5)], (4, 0), (0, 1)),
  (13, [(0, 0), (3, 1)], (4, 0), (0, 0)),
  (221, [(0, 93), (3, 1)], (4, 0), (0, 1)),
  (14, [(0, 0)], (4, 0), (0, 0)),
  (223, [(0, 93)], (4, 0), (0, 1)),
  (38, [(0, 0), (3, 1)], (4, 0), (0, 0)),
  (222, [(0, 93), (3, 1)], (4, 0), (0, 1)),
  (39, [(0, 0), (3, 1), (3, 2)], (4, 0), (0, 0)),
  (238, [(0, 93), (3, 1), (3, 2)], (4, 0), (0, 1)),
  (41, [(0, 0), (3, 1), (3, 2)], (4, 0), (0, 0)),
  (241, [(0, 93), (3, 1), (3, 2)], (4, 0), (0, 1)),
  (50, [(0, 0)], (4, 0), (0, 0)),
  (248, [(0, 93)], (4, 0), (0, 1)),
  (52, [(0, 0), (3, 1), (3, 2)], (4, 0), (0, 0)),
  (251, [(0, 93), (3, 1), (3, 2)], (4, 0), (0, 1)),
  (57, [(0, 0), (3, 1), (3, 2)], (4, 0), (0, 0)),
  (257, [(0, 93), (3, 1), (3, 2)], (4, 0), (0, 1)),
  (59, [(0, 0), (3, 1)], (4, 0), (0, 0)),
  (259, [(0, 93), (3, 1)], (4, 0), (0, 1)),
  (64, [(0, 0), (3, 1)], (4, 0), (0, 0)),
  (262, [(0, 93), (3, 1)], (4, 0), (0, 1)),
  (66, [(0, 0), (3, 1), (3, 2)], (5, 0), (0, 0)),
  (264, [(0, 93), (3, 1), (3, 2)], (5, 0), (0, 1)),
  (71, [(0, 0), (3, 1), (3, 2)], (5, 0), (0, 0)),
  (268, [(0, 93), (3, 1), (3, 2)], (5, 0), (0, 1)),
  (72, [(0, 0), (3, 1), (3, 2)], (5, 0), (0, 0)),
  (269, [(0, 93), (3, 1), (3, 2)], (5, 0), (0, 1)),
  (98, [(0, 0)], (4, 0), (0, 0)),
  (270, [(0, 93)], (4, 0), (0, 1)),
  (99, [(0, 0), (3, 1)], (4, 0), (0, 0)),
  (271, [(0, 93), (3, 1)], (4, 0), (0, 1)),
  (102, [(0, 0), (3, 1)], (4, 0), (0, 0)),
  (273, [(0, 93), (3, 1)], (4, 0), (0, 1)),
  (103, [(0, 0), (3, 1)], (4, 0), (0, 0)),
  (274, [(0, 93), (3, 1)], (4, 0), (0, 1)),
  (115, [(0, 0), (3, 1)], (4, 0), (0, 0)),
  (275, [(0, 93), (3, 1)], (4, 0), (0, 1)),
  (117, [(0, 0), (3, 1)], (4, 0), (0, 0)),
  (277, [(0, 93), (3, 1)], (4, 0), (0, 1)),
  (122, [(0, 0), (3, 1)], (4, 0), (0, 0)),
  (279, [(0, 93), (3, 1)], (4, 0), (0, 1)),
  (124, [(0, 0)], (4, 0), (0, 0)),
  (282, [(0, 93)], (4, 0), (0, 1)),
  (125, [(0, 0), (3, 1)], (4, 0), (0, 0)),
  (283, [(0, 93), (3, 1)], (4, 0), (0, 1)),
  (130, [(0, 0), (3, 1)], (4, 0), (0, 0)),
  (288, [(0, 93), (3, 1)], (4, 0), (0, 1)),
  (131, [(0, 0), (3, 1)], (4, 0), (0, 0)),
  (289, [(0, 93), (3, 1)], (4, 0), (0, 1)),
  (133, [(0, 0), (3, 1)], (4, 0), (0, 0)),
  (290, [(0, 93), (3, 1)], (4, 0), (0, 1)),
  (139, [(0, 0), (3, 1)], (4, 0), (0, 0)),
  (291, [(0, 93), (3, 1)], (4, 0), (0, 1)),
  (158, [(0, 0), (3, 1)], (4, 0), (0, 0)),
  (300, [(0, 93), (3, 1)], (4, 0), (0, 1)),
  (159, [(0, 0), (3, 1)], (4, 0), (0, 0)),
  (301, [(0, 93), (3, 1)], (4, 0), (0, 1)),
  (161, [(0, 0), (3, 1), (3, 2)], (4, 0), (0, 0)),
  (303, [(0, 93), (3, 1), (3, 2)], (4, 0), (0, 1)),
  (163, [(0, 0), (3, 1), (3, 2)], (4, 0), (0, 0)),
  (304, [(0, 93), (3, 1), (3, 2)], (4, 0), (0, 1)),
  (165, [(0, 0), (3, 1), (3, 2), (3, 3)], (4, 0), (0, 0)),
  (305, [(0, 93), (3, 1), (3, 2), (3, 3)], (4, 0), (0, 1)),
  (169, [(0, 0), (3, 1), (3, 2)], (4, 0), (0, 0)),
  (306, [(0, 93), (3, 1), (3, 2)], (4, 0), (0, 1)),
  (173, [(0, 0), (3, 1)], (4, 0), (0, 0)),
  (307, [(0, 93), (3, 1)], (4, 0), (0, 1)),
  (175, [(0, 0), (3, 1)], (4, 0), (0, 0)),
  (308, [(0, 93), (3, 1)], (4, 0), (0, 1)),
  (178, [(0, 0), (3, 1)], (4, 0), (0, 0)),
  (312, [(0, 93), (3, 1)], (4, 0), (0, 1)),
  (114, [(0, 0), (3, 1), (3, 2)], (4, 0), (0, 0)),
  (313, [(0, 93), (3, 1), (3, 2)], (4, 0), (0, 1)),
  (79, [(0, 0), (3, 1)], (4, 0), (0, 0)),
  (314, [(0, 93), (3, 1)], (4, 0), (0, 1)),
  (179, [(0, 0), (3, 1)], (4, 0), (0, 0)),
  (315, [(0, 93), (3, 1)], (4, 0), (0, 1)),
  (186, [(0, 0), (3, 1), (3, 2), (3, 3)], (4, 0), (0, 0)),
  (322, [(0, 93), (3, 1), (3, 2), (3, 3)], (4, 0), (0, 1)),
  (187, [(0, 0), (3, 1), (3, 2)], (4, 0), (0, 0)),
  (323, [(0, 93), (3, 1), (3, 2)], (4, 0), (0, 1)),
  (188, [(0, 0), (3, 1), (3, 2)], (4, 0), (0, 0)),
  (324, [(0, 93), (3, 1), (3, 2)], (4, 0), (0, 1)),
  (189, [(0, 0), (3, 1), (3, 2), (3, 3)], (4, 0), (0, 0)),
  (325, [(0, 93), (3, 1), (3, 2), (3, 3)], (4, 0), (0, 1)),
  (194, [(0, 0), (3, 1), (3, 2)], (4, 0), (0, 0)),
  (330, [(0, 93), (3, 1), (3, 2)], (4, 0), (0, 1)),
  (195, [(0, 0), (3, 1), (3, 2)], (4, 0), (0, 0)),
  (331, [(0, 93), (3, 1), (3, 2)], (4, 0), (0, 1)),
  (196, [(0, 0), (3, 1), (3, 2)], (4, 0), (0, 0)),
  (332, [(0, 93), (3, 1), (3, 2)], (4, 0), (0, 1)),
  (200, [(0, 0), (3, 1), (3, 2)], (4, 0), (0, 0)),
  (335, [(0, 93), (3, 1), (3, 2)], (4, 0), (0, 1)),
  (85, [(0, 0), (3, 1)], (4, 0), (0, 0)),
  (336, [(0, 93), (3, 1)], (4, 0), (0, 1)),
  (87, [(0, 0), (3, 1)], (4, 0), (0, 0)),
  (338, [(0, 93), (3, 1)], (4, 0), (0, 1)),
  (113, [(0, 0), (3, 1)], (4, 0), (0, 0)),
  (339, [(0, 93), (3, 1)], (4, 0), (0, 1)),
  (73, [(0, 0), (3, 1), (3, 2)], (5, 0), (0, 0)),
  (340, [(0, 93), (3, 1), (3, 2)], (5, 0), (0, 1)),
  (107, [(0, 0), (3, 1)], (4, 0), (0, 0)),
  (341, [(0, 93), (3, 1)], (4, 0), (0, 1)),
  (108, [(0, 0)], (4, 0), (0, 0)),
  (343, [(0, 93)], (4, 0), (0, 1)),
  (134, [(0, 0), (3, 1)], (4, 0), (0, 0)),
  (344, [(0, 93), (3, 1)], (4, 0), (0, 1)),
  (136, [(0, 0)], (4, 0), (0, 0)),
  (345, [(0, 93)], (4, 0), (0, 1)),
  (75, [(0, 0), (3, 1), (3, 2)], (4, 0), (0, 0)),
  (346, [(0, 93), (3, 1), (3, 2)], (4, 0), (0, 1)),
  (109, [(0, 0)], (4, 0), (0, 0)),
  (347, [(0, 93)], (4, 0), (0, 1)),
  (110, [(0, 0)], (4, 0), (0, 0)),
  (348, [(0, 93)], (4, 0), (0, 1)),
  (111, [(0, 0), (3, 1)], (4, 0), (0, 0)),
  (349, [(0, 93), (3, 1)], (4, 0), (0, 1)),
  (112, [(0, 0), (3, 1)], (4, 0), (0, 0)),
  (350, [(0, 93), (3, 1)], (4, 0), (0, 1)),
  (137, [(0, 0), (3, 1)], (4, 0), (0, 0)),
  (351, [(0, 93), (3, 1)], (4, 0), (0, 1)),
  (76, [(0, 0), (3, 1), (3, 2)], (4, 0), (0, 0)),
  (356, [(0, 93), (3, 1), (3, 2)], (4, 0), (0, 1)),
  (89, [(0, 0), (3, 1), (3, 2), (3, 3)], (4, 0), (0, 0)),
  (352, [(0, 93), (3, 1), (3, 2), (3, 3)], (4, 0), (0, 1)),
  (97, [(0, 0), (3, 1)], (4, 0), (0, 0)),
  (355, [(0, 93), (3, 1)], (4, 0), (0, 1)),
  (77, [(0, 0), (3, 1), (3, 2), (3, 3)], (4, 0), (0, 0)),
  (357, [(0, 93), (3, 1), (3, 2), (3, 3)], (4, 0), (0, 1)),
  (201, [(0, 0), (3, 1), (3, 2), (3, 3)], (4, 0), (0, 0)),
  (359, [(0, 93), (3, 1), (3, 2), (3, 3)], (4, 0), (0, 1)),
  (204, [(0, 0), (3, 1), (3, 2), (3, 3), (3, 4)], (4, 0), (0, 0)),
  (364, [(0, 93), (3, 1), (3, 2), (3, 3), (3, 4)], (4, 0), (0, 1)),
  (205, [(0, 0), (3, 1)], (4, 0), (0, 0)),
  (365, [(0, 93), (3, 1)], (4, 0), (0, 1)),
  (207, [(0, 0), (3, 1)], (4, 0), (0, 2)),
  (217, [(0, 93), (3, 1)], (4, 0), (2, 1)),
  (208, [(0, 0), (3, 1)], (4, 0), (0, 0)),
  (219, [(0, 93), (3, 1)], (4, 0), (0, 1)),
  (209, [(0, 0), (3, 1), (3, 2), (3, 3)], (4, 0), (0, 3)),
  (366, [(0, 93), (3, 1), (3, 2), (3, 3)], (4, 0), (3, 1)),
  (212, [(0, 0), (3, 1), (3, 2), (5, 0)], (7, 0), (0, 0)),
  (367, [(0, 93), (3, 1), (3, 2), (5, 0)], (7, 0), (0, 1)),
  (215, [(0, 0), (3, 1), (3, 2), (3, 3), (3, 4), (3, 5)], (4, 0), (0, 0)),
  (369, [(0, 93), (3, 1), (3, 2), (3, 3), (3, 4), (3, 5)], (4, 0), (0, 1))]
theorem l_c0 {a : Nat} {xs : Nat → Int32} {m0 : q_M} : l_ok (x_I m0 (xs (a + 1)) (xs (a + 2)) (xs (a + 3))) a xs (fun _ => x_wv m0 (xs (a + 1)) (xs (a + 2))) (10, [(0, 0), (3, 1), (3, 2), (3, 3), (3, 4), (3, 5)], (4, 0), (0, 0)) := l_of (ka_1 0) [(0, 0), (3, 1), (3, 2), (3, 3), (3, 4), (3, 5)] (4, 0) (by decide +kernel) (fun _ h => h.1.1) (x_of0 (by decide +kernel))
theorem l_c1 {a : Nat} {xs : Nat → Int32} {m0 : q_M} : l_ok (x_I m0 (xs (a + 1)) (xs (a + 2)) (xs (a + 3))) a xs (fun _ => x_wv m0 (xs (a + 1)) (xs (a + 2))) (220, [(0, 93), (3, 1), (3, 2), (3, 3), (3, 4), (3, 5)], (4, 0), (0, 1)) := l_of (ka_244 0) [(0, 93), (3, 1), (3, 2), (3, 3), (3, 4), (3, 5)] (4, 0) (by decide +kernel) (fun _ h => h.1.1) (x_of1 (by decide +kernel))
theorem l_c2 {a : Nat} {xs : Nat → Int32} {m0 : q_M} : l_ok (x_I m0 (xs (a + 1)) (xs (a + 2)) (xs (a + 3))) a xs (fun _ => x_wv m0 (xs (a + 1)) (xs (a + 2))) (13, [(0, 0), (3, 1)], (4, 0), (0, 0)) := l_of (ka_2 0) [(0, 0), (3, 1)] (4, 0) (by decide +kernel) (fun _ h => h.1.1) (x_of0 (by decide +kernel))
theorem l_c3 {a : Nat} {xs : Nat → Int32} {m0 : q_M} : l_ok (x_I m0 (xs (a + 1)) (xs (a + 2)) (xs (a + 3))) a xs (fun _ => x_wv m0 (xs (a + 1)) (xs (a + 2))) (221, [(0, 93), (3, 1)], (4, 0), (0, 1)) := l_of (ka_245 0) [(0, 93), (3, 1)] (4, 0) (by decide +kernel) (fun _ h => h.1.1) (x_of1 (by decide +kernel))
theorem l_c4 {a : Nat} {xs : Nat → Int32} {m0 : q_M} : l_ok (x_I m0 (xs (a + 1)) (xs (a + 2)) (xs (a + 3))) a xs (fun _ => x_wv m0 (xs (a + 1)) (xs (a + 2))) (14, [(0, 0)], (4, 0), (0, 0)) := l_of (ka_48 0) [(0, 0)] (4, 0) (by decide +kernel) (fun _ h => h.1.1) (x_of0 (by decide +kernel))
theorem l_c5 {a : Nat} {xs : Nat → Int32} {m0 : q_M} : l_ok (x_I m0 (xs (a + 1)) (xs (a + 2)) (xs (a + 3))) a xs (fun _ => x_wv m0 (xs (a + 1)) (xs (a + 2))) (223, [(0, 93)], (4, 0), (0, 1)) := l_of (ka_317 0) [(0, 93)] (4, 0) (by decide +kernel) (fun _ h => h.1.1) (x_of1 (by decide +kernel))
theorem l_c6 {a : Nat} {xs : Nat → Int32} {m0 : q_M} : l_ok (x_I m0 (xs (a + 1)) (xs (a + 2)) (xs (a + 3))) a xs (fun _ => x_wv m0 (xs (a + 1)) (xs (a + 2))) (38, [(0, 0), (3, 1)], (4, 0), (0, 0)) := l_of (ka_49 0) [(0, 0), (3, 1)] (4, 0) (by decide +kernel) (fun _ h => h.1.1) (x_of0 (by decide +kernel))
theorem l_c7 {a : Nat} {xs : Nat → Int32} {m0 : q_M} : l_ok (x_I m0 (xs (a + 1)) (xs (a + 2)) (xs (a + 3))) a xs (fun _ => x_wv m0 (xs (a + 1)) (xs (a + 2))) (222, [(0, 93), (3, 1)], (4, 0), (0, 1)) := l_of (ka_318 0) [(0, 93), (3, 1)] (4, 0) (by decide +kernel) (fun _ h => h.1.1) (x_of1 (by decide +kernel))
theorem l_c8 {a : Nat} {xs : Nat → Int32} {m0 : q_M} : l_ok (x_I m0 (xs (a + 1)) (xs (a + 2)) (xs (a + 3))) a xs (fun _ => x_wv m0 (xs (a + 1)) (xs (a + 2))) (39, [(0, 0), (3, 1), (3, 2)], (4, 0), (0, 0)) := l_of (ka_50 0) [(0, 0), (3, 1), (3, 2)] (4, 0) (by decide +kernel) (fun _ h => h.1.1) (x_of0 (by decide +kernel))
theorem l_c9 {a : Nat} {xs : Nat → Int32} {m0 : q_M} : l_ok (x_I m0 (xs (a + 1)) (xs (a + 2)) (xs (a + 3))) a xs (fun _ => x_wv m0 (xs (a + 1)) (xs (a + 2))) (238, [(0, 93), (3, 1), (3, 2)], (4, 0), (0, 1)) := l_of (ka_319 0) [(0, 93), (3, 1), (3, 2)] (4, 0) (by decide +kernel) (fun _ h => h.1.1) (x_of1 (by decide +kernel))
theorem l_c10 {a : Nat} {xs : Nat → Int32} {m0 : q_M} : l_ok (x_I m0 (xs (a + 1)) (xs (a + 2)) (xs (a + 3))) a xs (fun _ => x_wv m0 (xs (a + 1)) (xs (a + 2))) (41, [(0, 0), (3, 1), (3, 2)], (4, 0), (0, 0)) := l_of (ka_60 0) [(0, 0), (3, 1), (3, 2)] (4, 0) (by decide +kernel) (fun _ h => h.1.1) (x_of0 (by decide +kernel))
theorem l_c11 {a : Nat} {xs : Nat → Int32} {m0 : q_M} : l_ok (x_I m0 (xs (a + 1)) (xs (a + 2)) (xs (a + 3))) a xs (fun _ => x_wv m0 (xs (a + 1)) (xs (a + 2))) (241, [(0, 93), (3, 1), (3, 2)], (4, 0), (0, 1)) := l_of (ka_322 0) [(0, 93), (3, 1), (3, 2)] (4, 0) (by decide +kernel) (fun _ h => h.1.1) (x_of1 (by decide +kernel))
theorem l_c12 {a : Nat} {xs : Nat → Int32} {m0 : q_M} : l_ok (x_I m0 (xs (a + 1)) (xs (a + 2)) (xs (a + 3))) a xs (fun _ => x_wv m0 (xs (a + 1)) (xs (a + 2))) (50, [(0, 0)], (4, 0), (0, 0)) := l_of (ka_61 0) [(0, 0)] (4, 0) (by decide +kernel) (fun _ h => h.1.1) (x_of0 (by decide +kernel))
theorem l_c13 {a : Nat} {xs : Nat → Int32} {m0 : q_M} : l_ok (x_I m0 (xs (a + 1)) (xs (a + 2)) (xs (a + 3))) a xs (fun _ => x_wv m0 (xs (a + 1)) (xs (a + 2))) (248, [(0, 93)], (4, 0), (0, 1)) := l_of (ka_324 0) [(0, 93)] (4, 0) (by decide +kernel) (fun _ h => h.1.1) (x_of1 (by decide +kernel))
theorem l_c14 {a : Nat} {xs : Nat → Int32} {m0 : q_M} : l_ok (x_I m0 (xs (a + 1)) (xs (a + 2)) (xs (a + 3))) a xs (fun _ => x_wv m0 (xs (a + 1)) (xs (a + 2))) (52, [(0, 0), (3, 1), (3, 2)], (4, 0), (0, 0)) := l_of (ka_65 0) [(0, 0), (3, 1), (3, 2)] (4, 0) (by decide +kernel) (fun _ h => h.1.1) (x_of0 (by decide +kernel))
theorem l_c15 {a : Nat} {xs : Nat → Int32} {m0 : q_M} : l_ok (x_I m0 (xs (a + 1)) (xs (a + 2)) (xs (a + 3))) a xs (fun _ => x_wv m0 (xs (a + 1)) (xs (a + 2))) (251, [(0, 93), (3, 1), (3, 2)], (4, 0), (0, 1)) := l_of (ka_329 0) [(0, 93), (3, 1), (3, 2)] (4, 0) (by decide +kernel) (fun _ h => h.1.1) (x_of1 (by decide +kernel))
theorem l_c16 {a : Nat} {xs : Nat → Int32} {m0 : q_M} : l_ok (x_I m0 (xs (a + 1)) (xs (a + 2)) (xs (a + 3))) a xs (fun _ => x_wv m0 (xs (a + 1)) (xs (a + 2))) (57, [(0, 0), (3, 1), (3, 2)], (4, 0), (0, 0)) := l_of (ka_67 0) [(0, 0), (3, 1), (3, 2)] (4, 0) (by decide +kernel) (fun _ h => h.1.1) (x_of0 (by decide +kernel))
theorem l_c17 {a : Nat} {xs : Nat → Int32} {m0 : q_M} : l_ok (x_I m0 (xs (a + 1)) (xs (a + 2)) (xs (a + 3))) a xs (fun _ => x_wv m0 (xs (a + 1)) (xs (a + 2))) (257, [(0, 93), (3, 1), (3, 2)], (4, 0), (0, 1)) := l_of (ka_333 0) [(0, 93), (3, 1), (3, 2)] (4, 0) (by decide +kernel) (fun _ h => h.1.1) (x_of1 (by decide +kernel))
theorem l_c18 {a : Nat} {xs : Nat → Int32} {m0 : q_M} : l_ok (x_I m0 (xs (a + 1)) (xs (a + 2)) (xs (a + 3))) a xs (fun _ => x_wv m0 (xs (a + 1)) (xs (a + 2))) (59, [(0, 0), (3, 1)], (4, 0), (0, 0)) := l_of (ka_72 0) [(0, 0), (3, 1)] (4, 0) (by decide +kernel) (fun _ h => h.1.1) (x_of0 (by decide +kernel))
theorem l_c19 {a : Nat} {xs : Nat → Int32} {m0 : q_M} : l_ok (x_I m0 (xs (a + 1)) (xs (a + 2)) (xs (a + 3))) a xs (fun _ => x_wv m0 (xs (a + 1)) (xs (a + 2))) (259, [(0, 93), (3, 1)], (4, 0), (0, 1)) := l_of (ka_336 0) [(0, 93), (3, 1)] (4, 0) (by decide +kernel) (fun _ h => h.1.1) (x_of1 (by decide +kernel))
theorem l_c20 {a : Nat} {xs : Nat → Int32} {m0 : q_M} : l_ok (x_I m0 (xs (a + 1)) (xs (a + 2)) (xs (a + 3))) a xs (fun _ => x_wv m0 (xs (a + 1)) (xs (a + 2))) (64, [(0, 0), (3, 1)], (4, 0), (0, 0)) := l_of (ka_74 0) [(0, 0), (3, 1)] (4, 0) (by decide +kernel) (fun _ h => h.1.1) (x_of0 (by decide +kernel))
theorem l_c21 {a : Nat} {xs : Nat → Int32} {m0 : q_M} : l_ok (x_I m0 (xs (a + 1)) (xs (a + 2)) (xs (a + 3))) a xs (fun _ => x_wv m0 (xs (a + 1)) (xs (a + 2))) (262, [(0, 93), (3, 1)], (4, 0), (0, 1)) := l_of (ka_338 0) [(0, 93), (3, 1)] (4, 0) (by decide +kernel) (fun _ h => h.1.1) (x_of1 (by decide +kernel))
theorem l_c22 {a : Nat} {xs : Nat → Int32} {m0 : q_M} : l_ok (x_I m0 (xs (a + 1)) (xs (a + 2)) (xs (a + 3))) a xs (fun _ => x_wv m0 (xs (a + 1)) (xs (a + 2))) (66, [(0, 0), (3, 1), (3, 2)], (5, 0), (0, 0)) := l_of (ka_79 0) [(0, 0), (3, 1), (3, 2)] (5, 0) (by decide +kernel) (fun _ h => h.1.1) (x_of0 (by decide +kernel))
theorem l_c23 {a : Nat} {xs : Nat → Int32} {m0 : q_M} : l_ok (x_I m0 (xs (a + 1)) (xs (a + 2)) (xs (a + 3))) a xs (fun _ => x_wv m0 (xs (a + 1)) (xs (a + 2))) (264, [(0, 93), (3, 1), (3, 2)], (5, 0), (0, 1)) := l_of (ka_342 0) [(0, 93), (3, 1), (3, 2)] (5, 0) (by decide +kernel) (fun _ h => h.1.1) (x_of1 (by decide +kernel))
theorem l_c24 {a : Nat} {xs : Nat → Int32} {m0 : q_M} : l_ok (x_I m0 (xs (a + 1)) (xs (a + 2)) (xs (a + 3))) a xs (fun _ => x_wv m0 (xs (a + 1)) (xs (a + 2))) (71, [(0, 0), (3, 1), (3, 2)], (5, 0), (0, 0)) := l_of (ka_80 0) [(0, 0), (3, 1), (3, 2)] (5, 0) (by decide +kernel) (fun _ h => h.1.1) (x_of0 (by decide +kernel))
theorem l_c25 {a : Nat} {xs : Nat → Int32} {m0 : q_M} : l_ok (x_I m0 (xs (a + 1)) (xs (a + 2)) (xs (a + 3))) a xs (fun _ => x_wv m0 (xs (a + 1)) (xs (a + 2))) (268, [(0, 93), (3, 1), (3, 2)], (5, 0), (0, 1)) := l_of (ka_344 0) [(0, 93), (3, 1), (3, 2)] (5, 0) (by decide +kernel) (fun _ h => h.1.1) (x_of1 (by decide +kernel))
theorem l_c26 {a : Nat} {xs : Nat → Int32} {m0 : q_M} : l_ok (x_I m0 (xs (a + 1)) (xs (a + 2)) (xs (a + 3))) a xs (fun _ => x_wv m0 (xs (a + 1)) (xs (a + 2))) (72, [(0, 0), (3, 1), (3, 2)], (5, 0), (0, 0)) := l_of (ka_81 0) [(0, 0), (3, 1), (3, 2)] (5, 0) (by decide +kernel) (fun _ h => h.1.1) (x_of0 (by decide +kernel))
theorem l_c27 {a : Nat} {xs : Nat → Int32} {m0 : q_M} : l_ok (x_I m0 (xs (a + 1)) (xs (a + 2)) (xs (a + 3))) a xs (fun _ => x_wv m0 (xs (a + 1)) (xs (a + 2))) (269, [(0, 93), (3, 1), (3, 2)], (5, 0), (0, 1)) := l_of (ka_345 0) [(0, 93), (3, 1), (3, 2)] (5, 0) (by decide +kernel) (fun _ h => h.1.1) (x_of1 (by decide +kernel))
theorem l_c28 {a : Nat} {xs : Nat → Int32} {m0 : q_M} : l_ok (x_I m0 (xs (a + 1)) (xs (a + 2)) (xs (a + 3))) a xs (fun _ => x_wv m0 (xs (a + 1)) (xs (a + 2))) (98, [(0, 0)], (4, 0), (0, 0)) := l_of (ka_82 0) [(0, 0)] (4, 0) (by decide +kernel) (fun _ h => h.1.1) (x_of0 (by decide +kernel))
theorem l_c29 {a : Nat} {xs : Nat → Int32} {m0 : q_M} : l_ok (x_I m0 (xs (a + 1)) (xs (a + 2)) (xs (a + 3))) a xs (fun _ => x_wv m0 (xs (a + 1)) (xs (a + 2))) (270, [(0, 93)], (4, 0), (0, 1)) := l_of (ka_346 0) [(0, 93)] (4, 0) (by decide +kernel) (fun _ h => h.1.1) (x_of1 (by decide +kernel))
theorem l_c30 {a : Nat} {xs : Nat → Int32} {m0 : q_M} : l_ok (x_I m0 (xs (a + 1)) (xs (a + 2)) (xs (a + 3))) a xs (fun _ => x_wv m0 (xs (a + 1)) (xs (a + 2))) (99, [(0, 0), (3, 1)], (4, 0), (0, 0)) := l_of (ka_85 0) [(0, 0), (3, 1)] (4, 0) (by decide +kernel) (fun _ h => h.1.1) (x_of0 (by decide +kernel))
theorem l_c31 {a : Nat} {xs : Nat → Int32} {m0 : q_M} : l_ok (x_I m0 (xs (a + 1)) (xs (a + 2)) (xs (a + 3))) a xs (fun _ => x_wv m0 (xs (a + 1)) (xs (a + 2))) (271, [(0, 93), (3, 1)], (4, 0), (0, 1)) := l_of (ka_348 0) [(0, 93), (3, 1)] (4, 0) (by decide +kernel) (fun _ h => h.1.1) (x_of1 (by decide +kernel))
theorem l_c32 {a : Nat} {xs : Nat → Int32} {m0 : q_M} : l_ok (x_I m0 (xs (a + 1)) (xs (a + 2)) (xs (a + 3))) a xs (fun _ => x_wv m0 (xs (a + 1)) (xs (a + 2))) (102, [(0, 0), (3, 1)], (4, 0), (0, 0)) := l_of (ka_86 0) [(0, 0), (3, 1)] (4, 0) (by decide +kernel) (fun _ h => h.1.1) (x_of0 (by decide +kernel))
theorem l_c33 {a : Nat} {xs : Nat → Int32} {m0 : q_M} : l_ok (x_I m0 (xs (a + 1)) (xs (a + 2)) (xs (a + 3))) a xs (fun _ => x_wv m0 (xs (a + 1)) (xs (a + 2))) (273, [(0, 93), (3, 1)], (4, 0), (0, 1)) := l_of (ka_349 0) [(0, 93), (3, 1)] (4, 0) (by decide +kernel) (fun _ h => h.1.1) (x_of1 (by decide +kernel))
theorem l_c34 {a : Nat} {xs : Nat → Int32} {m0 : q_M} : l_ok (x_I m0 (xs (a + 1)) (xs (a + 2)) (xs (a + 3))) a xs (fun _ => x_wv m0 (xs (a + 1)) (xs (a + 2))) (103, [(0, 0), (3, 1)], (4, 0), (0, 0)) := l_of (ka_90 0) [(0, 0), (3, 1)] (4, 0) (by decide +kernel) (fun _ h => h.1.1) (x_of0 (by decide +kernel))
theorem l_c35 {a : Nat} {xs : Nat → Int32} {m0 : q_M} : l_ok (x_I m0 (xs (a + 1)) (xs (a + 2)) (xs (a + 3))) a xs (fun _ => x_wv m0 (xs (a + 1)) (xs (a + 2))) (274, [(0, 93), (3, 1)], (4, 0), (0, 1)) := l_of (ka_351 0) [(0, 93), (3, 1)] (4, 0) (by decide +kernel) (fun _ h => h.1.1) (x_of1 (by decide +kernel))
theorem l_c36 {a : Nat} {xs : Nat → Int32} {m0 : q_M} : l_ok (x_I m0 (xs (a + 1)) (xs (a + 2)) (xs (a + 3))) a xs (fun _ => x_wv m0 (xs (a + 1)) (xs (a + 2))) (115, [(0, 0), (3, 1)], (4, 0), (0, 0)) := l_of (ka_92 0) [(0, 0), (3, 1)] (4, 0) (by decide +kernel) (fun _ h => h.1.1) (x_of0 (by decide +kernel))
theorem l_c37 {a : Nat} {xs : Nat → Int32} {m0 : q_M} : l_ok (x_I m0 (xs (a + 1)) (xs (a + 2)) (xs (a + 3))) a xs (fun _ => x_wv m0 (xs (a + 1)) (xs (a + 2))) (275, [(0, 93), (3, 1)], (4, 0), (0, 1)) := l_of (ka_353 0) [(0, 93), (3, 1)] (4, 0) (by decide +kernel) (fun _ h => h.1.1) (x_of1 (by decide +kernel))
theorem l_c38 {a : Nat} {xs : Nat → Int32} {m0 : q_M} : l_ok (x_I m0 (xs (a + 1)) (xs (a + 2)) (xs (a + 3))) a xs (fun _ => x_wv m0 (xs (a + 1)) (xs (a + 2))) (117, [(0, 0), (3, 1)], (4, 0), (0, 0)) := l_of (ka_96 0) [(0, 0), (3, 1)] (4, 0) (by decide +kernel) (fun _ h => h.1.1) (x_of0 (by decide +kernel))
theorem l_c39 {a : Nat} {xs : Nat → Int32} {m0 : q_M} : l_ok (x_I m0 (xs (a + 1)) (xs (a + 2)) (xs (a + 3))) a xs (fun _ => x_wv m0 (xs (a + 1)) (xs (a + 2))) (277, [(0, 93), (3, 1)], (4, 0), (0, 1)) := l_of (ka_355 0) [(0, 93), (3, 1)] (4, 0) (by decide +kernel) (fun _ h => h.1.1) (x_of1 (by decide +kernel))
theorem l_c40 {a : Nat} {xs : Nat → Int32} {m0 : q_M} : l_ok (x_I m0 (xs (a + 1)) (xs (a + 2)) (xs (a + 3))) a xs (fun _ => x_wv m0 (xs (a + 1)) (xs (a + 2))) (122, [(0, 0), (3, 1)], (4, 0), (0, 0)) := l_of (ka_98 0) [(0, 0), (3, 1)] (4, 0) (by decide +kernel) (fun _ h => h.1.1) (x_of0 (by decide +kernel))
theorem l_c41 {a : Nat} {xs : Nat → Int32} {m0 : q_M} : l_ok (x_I m0 (xs (a + 1)) (xs (a + 2)) (xs (a + 3))) a xs (fun _ => x_wv m0 (xs (a + 1)) (xs (a + 2))) (279, [(0, 93), (3, 1)], (4, 0), (0, 1)) := l_of (ka_358 0) [(0, 93), (3, 1)] (4, 0) (by decide +kernel) (fun _ h => h.1.1) (x_of1 (by decide +kernel))
theorem l_c42 {a : Nat} {xs : Nat → Int32} {m0 : q_M} : l_ok (x_I m0 (xs (a + 1)) (xs (a + 2)) (xs (a + 3))) a xs (fun _ => x_wv m0 (xs (a + 1)) (xs (a + 2))) (124, [(0, 0)], (4, 0), (0, 0)) := l_of (ka_99 0) [(0, 0)] (4, 0) (by decide +kernel) (fun _ h => h.1.1) (x_of0 (by decide +kernel))
theorem l_c43 {a : Nat} {xs : Nat → Int32} {m0 : q_M} : l_ok (x_I m0 (xs (a + 1)) (xs (a + 2)) (xs (a + 3))) a xs (fun _ => x_wv m0 (xs (a + 1)) (xs (a + 2))) (282, [(0, 93)], (4, 0), (0, 1)) := l_of (ka_359 0) [(0, 93)] (4, 0) (by decide +kernel) (fun _ h => h.1.1) (x_of1 (by decide +kernel))
theorem l_c44 {a : Nat} {xs : Nat → Int32} {m0 : q_M} : l_ok (x_I m0 (xs (a + 1)) (xs (a + 2)) (xs (a + 3))) a xs (fun _ => x_wv m0 (xs (a + 1)) (xs (a + 2))) (125, [(0, 0), (3, 1)], (4, 0), (0, 0)) := l_of (ka_104 0) [(0, 0), (3, 1)] (4, 0) (by decide +kernel) (fun _ h => h.1.1) (x_of0 (by decide +kernel))
theorem l_c45 {a : Nat} {xs : Nat → Int32} {m0 : q_M} : l_ok (x_I m0 (xs (a + 1)) (xs (a + 2)) (xs (a + 3))) a xs (fun _ => x_wv m0 (xs (a + 1)) (xs (a + 2))) (283, [(0, 93), (3, 1)], (4, 0), (0, 1)) := l_of (ka_364 0) [(0, 93), (3, 1)] (4, 0) (by decide +kernel) (fun _ h => h.1.1) (x_of1 (by decide +kernel))
theorem l_c46 {a : Nat} {xs : Nat → Int32} {m0 : q_M} : l_ok (x_I m0 (xs (a + 1)) (xs (a + 2)) (xs (a + 3))) a xs (fun _ => x_wv m0 (xs (a + 1)) (xs (a + 2))) (130, [(0, 0), (3, 1)], (4, 0), (0, 0)) := l_of (ka_105 0) [(0, 0), (3, 1)] (4, 0) (by decide +kernel) (fun _ h => h.1.1) (x_of0 (by decide +kernel))
theorem l_c47 {a : Nat} {xs : Nat → Int32} {m0 : q_M} : l_ok (x_I m0 (xs (a + 1)) (xs (a + 2)) (xs (a + 3))) a xs (fun _ => x_wv m0 (xs (a + 1)) (xs (a + 2))) (288, [(0, 93), (3, 1)], (4, 0), (0, 1)) := l_of (ka_366 0) [(0, 93), (3, 1)] (4, 0) (by decide +kernel) (fun _ h => h.1.1) (x_of1 (by decide +kernel))
theorem l_c48 {a : Nat} {xs : Nat → Int32} {m0 : q_M} : l_ok (x_I m0 (xs (a + 1)) (xs (a + 2)) (xs (a + 3))) a xs (fun _ => x_wv m0 (xs (a + 1)) (xs (a + 2))) (131, [(0, 0), (3, 1)], (4, 0), (0, 0)) := l_of (ka_107 0) [(0, 0), (3, 1)] (4, 0) (by decide +kernel) (fun _ h => h.1.1) (x_of0 (by decide +kernel))
theorem l_c49 {a : Nat} {xs : Nat → Int32} {m0 : q_M} : l_ok (x_I m0 (xs (a + 1)) (xs (a + 2)) (xs (a + 3))) a xs (fun _ => x_wv m0 (xs (a + 1)) (xs (a + 2))) (289, [(0, 93), (3, 1)], (4, 0), (0, 1)) := l_of (ka_367 0) [(0, 93), (3, 1)] (4, 0) (by decide +kernel) (fun _ h => h.1.1) (x_of1 (by decide +kernel))
theorem l_c50 {a : Nat} {xs : Nat → Int32} {m0 : q_M} : l_ok (x_I m0 (xs (a + 1)) (xs (a + 2)) (xs (a + 3))) a xs (fun _ => x_wv m0 (xs (a + 1)) (xs (a + 2))) (133, [(0, 0), (3, 1)], (4, 0), (0, 0)) := l_of (ka_108 0) [(0, 0), (3, 1)] (4, 0) (by decide +kernel) (fun _ h => h.1.1) (x_of0 (by decide +kernel))
theorem l_c51 {a : Nat} {xs : Nat → Int32} {m0 : q_M} : l_ok (x_I m0 (xs (a + 1)) (xs (a + 2)) (xs (a + 3))) a xs (fun _ => x_wv m0 (xs (a + 1)) (xs (a + 2))) (290, [(0, 93), (3, 1)], (4, 0), (0, 1)) := l_of (ka_368 0) [(0, 93), (3, 1)] (4, 0) (by decide +kernel) (fun _ h => h.1.1) (x_of1 (by decide +kernel))
theorem l_c52 {a : Nat} {xs : Nat → Int32} {m0 : q_M} : l_ok (x_I m0 (xs (a + 1)) (xs (a + 2)) (xs (a + 3))) a xs (fun _ => x_wv m0 (xs (a + 1)) (xs (a + 2))) (139, [(0, 0), (3, 1)], (4, 0), (0, 0)) := l_of (ka_126 0) [(0, 0), (3, 1)] (4, 0) (by decide +kernel) (fun _ h => h.1.1) (x_of0 (by decide +kernel))
theorem l_c53 {a : Nat} {xs : Nat → Int32} {m0 : q_M} : l_ok (x_I m0 (xs (a + 1)) (xs (a + 2)) (xs (a + 3))) a xs (fun _ => x_wv m0 (xs (a + 1)) (xs (a + 2))) (291, [(0, 93), (3, 1)], (4, 0), (0, 1)) := l_of (ka_376 0) [(0, 93), (3, 1)] (4, 0) (by decide +kernel) (fun _ h => h.1.1) (x_of1 (by decide +kernel))
theorem l_c54 {a : Nat} {xs : Nat → Int32} {m0 : q_M} : l_ok (x_I m0 (xs (a + 1)) (xs (a + 2)) (xs (a + 3))) a xs (fun _ => x_wv m0 (xs (a + 1)) (xs (a + 2))) (158, [(0, 0), (3, 1)], (4, 0), (0, 0)) := l_of (ka_127 0) [(0, 0), (3, 1)] (4, 0) (by decide +kernel) (fun _ h => h.1.1) (x_of0 (by decide +kernel))
theorem l_c55 {a : Nat} {xs : Nat → Int32} {m0 : q_M} : l_ok (x_I m0 (xs (a + 1)) (xs (a + 2)) (xs (a + 3))) a xs (fun _ => x_wv m0 (xs (a + 1)) (xs (a + 2))) (300, [(0, 93), (3, 1)], (4, 0), (0, 1)) := l_of (ka_377 0) [(0, 93), (3, 1)] (4, 0) (by decide +kernel) (fun _ h => h.1.1) (x_of1 (by decide +kernel))
theorem l_c56 {a : Nat} {xs : Nat → Int32} {m0 : q_M} : l_ok (x_I m0 (xs (a + 1)) (xs (a + 2)) (xs (a + 3))) a xs (fun _ => x_wv m0 (xs (a + 1)) (xs (a + 2))) (159, [(0, 0), (3, 1)], (4, 0), (0, 0)) := l_of (ka_129 0) [(0, 0), (3, 1)] (4, 0) (by decide +kernel) (fun _ h => h.1.1) (x_of0 (by decide +kernel))
theorem l_c57 {a : Nat} {xs : Nat → Int32} {m0 : q_M} : l_ok (x_I m0 (xs (a + 1)) (xs (a + 2)) (xs (a + 3))) a xs (fun _ => x_wv m0 (xs (a + 1)) (xs (a + 2))) (301, [(0, 93), (3, 1)], (4, 0), (0, 1)) := l_of (ka_379 0) [(0, 93), (3, 1)] (4, 0) (by decide +kernel) (fun _ h => h.1.1) (x_of1 (by decide +kernel))
theorem l_c58 {a : Nat} {xs : Nat → Int32} {m0 : q_M} : l_ok (x_I m0 (xs (a + 1)) (xs (a + 2)) (xs (a + 3))) a xs (fun _ => x_wv m0 (xs (a + 1)) (xs (a + 2))) (161, [(0, 0), (3, 1), (3, 2)], (4, 0), (0, 0)) := l_of (ka_131 0) [(0, 0), (3, 1), (3, 2)] (4, 0) (by decide +kernel) (fun _ h => h.1.1) (x_of0 (by decide +kernel))
theorem l_c59 {a : Nat} {xs : Nat → Int32} {m0 : q_M} : l_ok (x_I m0 (xs (a + 1)) (xs (a + 2)) (xs (a + 3))) a xs (fun _ => x_wv m0 (xs (a + 1)) (xs (a + 2))) (303, [(0, 93), (3, 1), (3, 2)], (4, 0), (0, 1)) := l_of (ka_381 0) [(0, 93), (3, 1), (3, 2)] (4, 0) (by decide +kernel) (fun _ h => h.1.1) (x_of1 (by decide +kernel))
theorem l_c60 {a : Nat} {xs : Nat → Int32} {m0 : q_M} : l_ok (x_I m0 (xs (a + 1)) (xs (a + 2)) (xs (a + 3))) a xs (fun _ => x_wv m0 (xs (a + 1)) (xs (a + 2))) (163, [(0, 0), (3, 1), (3, 2)], (4, 0), (0, 0)) := l_of (ka_133 0) [(0, 0), (3, 1), (3, 2)] (4, 0) (by decide +kernel) (fun _ h => h.1.1) (x_of0 (by decide +kernel))
theorem l_c61 {a : Nat} {xs : Nat → Int32} {m0 : q_M} : l_ok (x_I m0 (xs (a + 1)) (xs (a + 2)) (xs (a + 3))) a xs (fun _ => x_wv m0 (xs (a + 1)) (xs (a + 2))) (304, [(0, 93), (3, 1), (3, 2)], (4, 0), (0, 1)) := l_of (ka_382 0) [(0, 93), (3, 1), (3, 2)] (4, 0) (by decide +kernel) (fun _ h => h.1.1) (x_of1 (by decide +kernel))
theorem l_c62 {a : Nat} {xs : Nat → Int32} {m0 : q_M} : l_ok (x_I m0 (xs (a + 1)) (xs (a + 2)) (xs (a + 3))) a xs (fun _ => x_wv m0 (xs (a + 1)) (xs (a + 2))) (165, [(0, 0), (3, 1), (3, 2), (3, 3)], (4, 0), (0, 0)) := l_of (ka_137 0) [(0, 0), (3, 1), (3, 2), (3, 3)] (4, 0) (by decide +kernel) (fun _ h => h.1.1) (x_of0 (by decide +kernel))
theorem l_c63 {a : Nat} {xs : Nat → Int32} {m0 : q_M} : l_ok (x_I m0 (xs (a + 1)) (xs (a + 2)) (xs (a + 3))) a xs (fun _ => x_wv m0 (xs (a + 1)) (xs (a + 2))) (305, [(0, 93), (3, 1), (3, 2), (3, 3)], (4, 0), (0, 1)) := l_of (ka_387 0) [(0, 93), (3, 1), (3, 2), (3, 3)] (4, 0) (by decide +kernel) (fun _ h => h.1.1) (x_of1 (by decide +kernel))
theorem l_c64 {a : Nat} {xs : Nat → Int32} {m0 : q_M} : l_ok (x_I m0 (xs (a + 1)) (xs (a + 2)) (xs (a + 3))) a xs (fun _ => x_wv m0 (xs (a + 1)) (xs (a + 2))) (169, [(0, 0), (3, 1), (3, 2)], (4, 0), (0, 0)) := l_of (ka_141 0) [(0, 0), (3, 1), (3, 2)] (4, 0) (by decide +kernel) (fun _ h => h.1.1) (x_of0 (by decide +kernel))
theorem l_c65 {a : Nat} {xs : Nat → Int32} {m0 : q_M} : l_ok (x_I m0 (xs (a + 1)) (xs (a + 2)) (xs (a + 3))) a xs (fun _ => x_wv m0 (xs (a + 1)) (xs (a + 2))) (306, [(0, 93), (3, 1), (3, 2)], (4, 0), (0, 1)) := l_of (ka_388 0) [(0, 93), (3, 1), (3, 2)] (4, 0) (by decide +kernel) (fun _ h => h.1.1) (x_of1 (by decide +kernel))
theorem l_c66 {a : Nat} {xs : Nat → Int32} {m0 : q_M} : l_ok (x_I m0 (xs (a + 1)) (xs (a + 2)) (xs (a + 3))) a xs (fun _ => x_wv m0 (xs (a + 1)) (xs (a + 2))) (173, [(0, 0), (3, 1)], (4, 0), (0, 0)) := l_of (ka_143 0) [(0, 0), (3, 1)] (4, 0) (by decide +kernel) (fun _ h => h.1.1) (x_of0 (by decide +kernel))
theorem l_c67 {a : Nat} {xs : Nat → Int32} {m0 : q_M} : l_ok (x_I m0 (xs (a + 1)) (xs (a + 2)) (xs (a + 3))) a xs (fun _ => x_wv m0 (xs (a + 1)) (xs (a + 2))) (307, [(0, 93), (3, 1)], (4, 0), (0, 1)) := l_of (ka_389 0) [(0, 93), (3, 1)] (4, 0) (by decide +kernel) (fun _ h => h.1.1) (x_of1 (by decide +kernel))
theorem l_c68 {a : Nat} {xs : Nat → Int32} {m0 : q_M} : l_ok (x_I m0 (xs (a + 1)) (xs (a + 2)) (xs (a + 3))) a xs (fun _ => x_wv m0 (xs (a + 1)) (xs (a + 2))) (175, [(0, 0), (3, 1)], (4, 0), (0, 0)) := l_of (ka_154 0) [(0, 0), (3, 1)] (4, 0) (by decide +kernel) (fun _ h => h.1.1) (x_of0 (by decide +kernel))
theorem l_c69 {a : Nat} {xs : Nat → Int32} {m0 : q_M} : l_ok (x_I m0 (xs (a + 1)) (xs (a + 2)) (xs (a + 3))) a xs (fun _ => x_wv m0 (xs (a + 1)) (xs (a + 2))) (308, [(0, 93), (3, 1)], (4, 0), (0, 1)) := l_of (ka_400 0) [(0, 93), (3, 1)] (4, 0) (by decide +kernel) (fun _ h => h.1.1) (x_of1 (by decide +kernel))
theorem l_c70 {a : Nat} {xs : Nat → Int32} {m0 : q_M} : l_ok (x_I m0 (xs (a + 1)) (xs (a + 2)) (xs (a + 3))) a xs (fun _ => x_wv m0 (xs (a + 1)) (xs (a + 2))) (178, [(0, 0), (3, 1)], (4, 0), (0, 0)) := l_of (ka_155 0) [(0, 0), (3, 1)] (4, 0) (by decide +kernel) (fun _ h => h.1.1) (x_of0 (by decide +kernel))
theorem l_c71 {a : Nat} {xs : Nat → Int32} {m0 : q_M} : l_ok (x_I m0 (xs (a + 1)) (xs (a + 2)) (xs (a + 3))) a xs (fun _ => x_wv m0 (xs (a + 1)) (xs (a + 2))) (312, [(0, 93), (3, 1)], (4, 0), (0, 1)) := l_of (ka_401 0) [(0, 93), (3, 1)] (4, 0) (by decide +kernel) (fun _ h => h.1.1) (x_of1 (by decide +kernel))
theorem l_c72 {a : Nat} {xs : Nat → Int32} {m0 : q_M} : l_ok (x_I m0 (xs (a + 1)) (xs (a + 2)) (xs (a + 3))) a xs (fun _ => x_wv m0 (xs (a + 1)) (xs (a + 2))) (114, [(0, 0), (3, 1), (3, 2)], (4, 0), (0, 0)) := l_of (ka_156 0) [(0, 0), (3, 1), (3, 2)] (4, 0) (by decide +kernel) (fun _ h => h.1.1) (x_of0 (by decide +kernel))
theorem l_c73 {a : Nat} {xs : Nat → Int32} {m0 : q_M} : l_ok (x_I m0 (xs (a + 1)) (xs (a + 2)) (xs (a + 3))) a xs (fun _ => x_wv m0 (xs (a + 1)) (xs (a + 2))) (313, [(0, 93), (3, 1), (3, 2)], (4, 0), (0, 1)) := l_of (ka_402 0) [(0, 93), (3, 1), (3, 2)] (4, 0) (by decide +kernel) (fun _ h => h.1.1) (x_of1 (by decide +kernel))
theorem l_c74 {a : Nat} {xs : Nat → Int32} {m0 : q_M} : l_ok (x_I m0 (xs (a + 1)) (xs (a + 2)) (xs (a + 3))) a xs (fun _ => x_wv m0 (xs (a + 1)) (xs (a + 2))) (79, [(0, 0), (3, 1)], (4, 0), (0, 0)) := l_of (ka_159 0) [(0, 0), (3, 1)] (4, 0) (by decide +kernel) (fun _ h => h.1.1) (x_of0 (by decide +kernel))
theorem l_c75 {a : Nat} {xs : Nat → Int32} {m0 : q_M} : l_ok (x_I m0 (xs (a + 1)) (xs (a + 2)) (xs (a + 3))) a xs (fun _ => x_wv m0 (xs (a + 1)) (xs (a + 2))) (314, [(0, 93), (3, 1)], (4, 0), (0, 1)) := l_of (ka_404 0) [(0, 93), (3, 1)] (4, 0) (by decide +kernel) (fun _ h => h.1.1) (x_of1 (by decide +kernel))
theorem l_c76 {a : Nat} {xs : Nat → Int32} {m0 : q_M} : l_ok (x_I m0 (xs (a + 1)) (xs (a + 2)) (xs (a + 3))) a xs (fun _ => x_wv m0 (xs (a + 1)) (xs (a + 2))) (179, [(0, 0), (3, 1)], (4, 0), (0, 0)) := l_of (ka_168 0) [(0, 0), (3, 1)] (4, 0) (by decide +kernel) (fun _ h => h.1.1) (x_of0 (by decide +kernel))
theorem l_c77 {a : Nat} {xs : Nat → Int32} {m0 : q_M} : l_ok (x_I m0 (xs (a + 1)) (xs (a + 2)) (xs (a + 3))) a xs (fun _ => x_wv m0 (xs (a + 1)) (xs (a + 2))) (315, [(0, 93), (3, 1)], (4, 0), (0, 1)) := l_of (ka_412 0) [(0, 93), (3, 1)] (4, 0) (by decide +kernel) (fun _ h => h.1.1) (x_of1 (by decide +kernel))
theorem l_c78 {a : Nat} {xs : Nat → Int32} {m0 : q_M} : l_ok (x_I m0 (xs (a + 1)) (xs (a + 2)) (xs (a + 3))) a xs (fun _ => x_wv m0 (xs (a + 1)) (xs (a + 2))) (186, [(0, 0), (3, 1), (3, 2), (3, 3)], (4, 0), (0, 0)) := l_of (ka_169 0) [(0, 0), (3, 1), (3, 2), (3, 3)] (4, 0) (by decide +kernel) (fun _ h => h.1.1) (x_of0 (by decide +kernel))
theorem l_c79 {a : Nat} {xs : Nat → Int32} {m0 : q_M} : l_ok (x_I m0 (xs (a + 1)) (xs (a + 2)) (xs (a + 3))) a xs (fun _ => x_wv m0 (xs (a + 1)) (xs (a + 2))) (322, [(0, 93), (3, 1), (3, 2), (3, 3)], (4, 0), (0, 1)) := l_of (ka_413 0) [(0, 93), (3, 1), (3, 2), (3, 3)] (4, 0) (by decide +kernel) (fun _ h => h.1.1) (x_of1 (by decide +kernel))
theorem l_c80 {a : Nat} {xs : Nat → Int32} {m0 : q_M} : l_ok (x_I m0 (xs (a + 1)) (xs (a + 2)) (xs (a + 3))) a xs (fun _ => x_wv m0 (xs (a + 1)) (xs (a + 2))) (187, [(0, 0), (3, 1), (3, 2)], (4, 0), (0, 0)) := l_of (ka_170 0) [(0, 0), (3, 1), (3, 2)] (4, 0) (by decide +kernel) (fun _ h => h.1.1) (x_of0 (by decide +kernel))
theorem l_c81 {a : Nat} {xs : Nat → Int32} {m0 : q_M} : l_ok (x_I m0 (xs (a + 1)) (xs (a + 2)) (xs (a + 3))) a xs (fun _ => x_wv m0 (xs (a + 1)) (xs (a + 2))) (323, [(0, 93), (3, 1), (3, 2)], (4, 0), (0, 1)) := l_of (ka_414 0) [(0, 93), (3, 1), (3, 2)] (4, 0) (by decide +kernel) (fun _ h => h.1.1) (x_of1 (by decide +kernel))
theorem l_c82 {a : Nat} {xs : Nat → Int32} {m0 : q_M} : l_ok (x_I m0 (xs (a + 1)) (xs (a + 2)) (xs (a + 3))) a xs (fun _ => x_wv m0 (xs (a + 1)) (xs (a + 2))) (188, [(0, 0), (3, 1), (3, 2)], (4, 0), (0, 0)) := l_of (ka_171 0) [(0, 0), (3, 1), (3, 2)] (4, 0) (by decide +kernel) (fun _ h => h.1.1) (x_of0 (by decide +kernel))
theorem l_c83 {a : Nat} {xs : Nat → Int32} {m0 : q_M} : l_ok (x_I m0 (xs (a + 1)) (xs (a + 2)) (xs (a + 3))) a xs (fun _ => x_wv m0 (xs (a + 1)) (xs (a + 2))) (324, [(0, 93), (3, 1), (3, 2)], (4, 0), (0, 1)) := l_of (ka_415 0) [(0, 93), (3, 1), (3, 2)] (4, 0) (by decide +kernel) (fun _ h => h.1.1) (x_of1 (by decide +kernel))
theorem l_c84 {a : Nat} {xs : Nat → Int32} {m0 : q_M} : l_ok (x_I m0 (xs (a + 1)) (xs (a + 2)) (xs (a + 3))) a xs (fun _ => x_wv m0 (xs (a + 1)) (xs (a + 2))) (189, [(0, 0), (3, 1), (3, 2), (3, 3)], (4, 0), (0, 0)) := l_of (ka_176 0) [(0, 0), (3, 1), (3, 2), (3, 3)] (4, 0) (by decide +kernel) (fun _ h => h.1.1) (x_of0 (by decide +kernel))
theorem l_c85 {a : Nat} {xs : Nat → Int32} {m0 : q_M} : l_ok (x_I m0 (xs (a + 1)) (xs (a + 2)) (xs (a + 3))) a xs (fun _ => x_wv m0 (xs (a + 1)) (xs (a + 2))) (325, [(0, 93), (3, 1), (3, 2), (3, 3)], (4, 0), (0, 1)) := l_of (ka_420 0) [(0, 93), (3, 1), (3, 2), (3, 3)] (4, 0) (by decide +kernel) (fun _ h => h.1.1) (x_of1 (by decide +kernel))
theorem l_c86 {a : Nat} {xs : Nat → Int32} {m0 : q_M} : l_ok (x_I m0 (xs (a + 1)) (xs (a + 2)) (xs (a + 3))) a xs (fun _ => x_wv m0 (xs (a + 1)) (xs (a + 2))) (194, [(0, 0), (3, 1), (3, 2)], (4, 0), (0, 0)) := l_of (ka_177 0) [(0, 0), (3, 1), (3, 2)] (4, 0) (by decide +kernel) (fun _ h => h.1.1) (x_of0 (by decide +kernel))
theorem l_c87 {a : Nat} {xs : Nat → Int32} {m0 : q_M} : l_ok (x_I m0 (xs (a + 1)) (xs (a + 2)) (xs (a + 3))) a xs (fun _ => x_wv m0 (xs (a + 1)) (xs (a + 2))) (330, [(0, 93), (3, 1), (3, 2)], (4, 0), (0, 1)) := l_of (ka_421 0) [(0, 93), (3, 1), (3, 2)] (4, 0) (by decide +kernel) (fun _ h => h.1.1) (x_of1 (by decide +kernel))
theorem l_c88 {a : Nat} {xs : Nat → Int32} {m0 : q_M} : l_ok (x_I m0 (xs (a + 1)) (xs (a + 2)) (xs (a + 3))) a xs (fun _ => x_wv m0 (xs (a + 1)) (xs (a + 2))) (195, [(0, 0), (3, 1), (3, 2)], (4, 0), (0, 0)) := l_of (ka_178 0) [(0, 0), (3, 1), (3, 2)] (4, 0) (by decide +kernel) (fun _ h => h.1.1) (x_of0 (by decide +kernel))
theorem l_c89 {a : Nat} {xs : Nat → Int32} {m0 : q_M} : l_ok (x_I m0 (xs (a + 1)) (xs (a + 2)) (xs (a + 3))) a xs (fun _ => x_wv m0 (xs (a + 1)) (xs (a + 2))) (331, [(0, 93), (3, 1), (3, 2)], (4, 0), (0, 1)) := l_of (ka_422 0) [(0, 93), (3, 1), (3, 2)] (4, 0) (by decide +kernel) (fun _ h => h.1.1) (x_of1 (by decide +kernel))
theorem l_c90 {a : Nat} {xs : Nat → Int32} {m0 : q_M} : l_ok (x_I m0 (xs (a + 1)) (xs (a + 2)) (xs (a + 3))) a xs (fun _ => x_wv m0 (xs (a + 1)) (xs (a + 2))) (196, [(0, 0), (3, 1), (3, 2)], (4, 0), (0, 0)) := l_of (ka_182 0) [(0, 0), (3, 1), (3, 2)] (4, 0) (by decide +kernel) (fun _ h => h.1.1) (x_of0 (by decide +kernel))
theorem l_c91 {a : Nat} {xs : Nat → Int32} {m0 : q_M} : l_ok (x_I m0 (xs (a + 1)) (xs (a + 2)) (xs (a + 3))) a xs (fun _ => x_wv m0 (xs (a + 1)) (xs (a + 2))) (332, [(0, 93), (3, 1), (3, 2)], (4, 0), (0, 1)) := l_of (ka_425 0) [(0, 93), (3, 1), (3, 2)] (4, 0) (by decide +kernel) (fun _ h => h.1.1) (x_of1 (by decide +kernel))
theorem l_c92 {a : Nat} {xs : Nat → Int32} {m0 : q_M} : l_ok (x_I m0 (xs (a + 1)) (xs (a + 2)) (xs (a + 3))) a xs (fun _ => x_wv m0 (xs (a + 1)) (xs (a + 2))) (200, [(0, 0), (3, 1), (3, 2)], (4, 0), (0, 0)) := l_of (ka_183 0) [(0, 0), (3, 1), (3, 2)] (4, 0) (by decide +kernel) (fun _ h => h.1.1) (x_of0 (by decide +kernel))
theorem l_c93 {a : Nat} {xs : Nat → Int32} {m0 : q_M} : l_ok (x_I m0 (xs (a + 1)) (xs (a + 2)) (xs (a + 3))) a xs (fun _ => x_wv m0 (xs (a + 1)) (xs (a + 2))) (335, [(0, 93), (3, 1), (3, 2)], (4, 0), (0, 1)) := l_of (ka_426 0) [(0, 93), (3, 1), (3, 2)] (4, 0) (by decide +kernel) (fun _ h => h.1.1) (x_of1 (by decide +kernel))
theorem l_c94 {a : Nat} {xs : Nat → Int32} {m0 : q_M} : l_ok (x_I m0 (xs (a + 1)) (xs (a + 2)) (xs (a + 3))) a xs (fun _ => x_wv m0 (xs (a + 1)) (xs (a + 2))) (85, [(0, 0), (3, 1)], (4, 0), (0, 0)) := l_of (ka_185 0) [(0, 0), (3, 1)] (4, 0) (by decide +kernel) (fun _ h => h.1.1) (x_of0 (by decide +kernel))
theorem l_c95 {a : Nat} {xs : Nat → Int32} {m0 : q_M} : l_ok (x_I m0 (xs (a + 1)) (xs (a + 2)) (xs (a + 3))) a xs (fun _ => x_wv m0 (xs (a + 1)) (xs (a + 2))) (336, [(0, 93), (3, 1)], (4, 0), (0, 1)) := l_of (ka_428 0) [(0, 93), (3, 1)] (4, 0) (by decide +kernel) (fun _ h => h.1.1) (x_of1 (by decide +kernel))
theorem l_c96 {a : Nat} {xs : Nat → Int32} {m0 : q_M} : l_ok (x_I m0 (xs (a + 1)) (xs (a + 2)) (xs (a + 3))) a xs (fun _ => x_wv m0 (xs (a + 1)) (xs (a + 2))) (87, [(0, 0), (3, 1)], (4, 0), (0, 0)) := l_of (ka_186 0) [(0, 0), (3, 1)] (4, 0) (by decide +kernel) (fun _ h => h.1.1) (x_of0 (by decide +kernel))
theorem l_c97 {a : Nat} {xs : Nat → Int32} {m0 : q_M} : l_ok (x_I m0 (xs (a + 1)) (xs (a + 2)) (xs (a + 3))) a xs (fun _ => x_wv m0 (xs (a + 1)) (xs (a + 2))) (338, [(0, 93), (3, 1)], (4, 0), (0, 1)) := l_of (ka_429 0) [(0, 93), (3, 1)] (4, 0) (by decide +kernel) (fun _ h => h.1.1) (x_of1 (by decide +kernel))
theorem l_c98 {a : Nat} {xs : Nat → Int32} {m0 : q_M} : l_ok (x_I m0 (xs (a + 1)) (xs (a + 2)) (xs (a + 3))) a xs (fun _ => x_wv m0 (xs (a + 1)) (xs (a + 2))) (113, [(0, 0), (3, 1)], (4, 0), (0, 0)) := l_of (ka_187 0) [(0, 0), (3, 1)] (4, 0) (by decide +kernel) (fun _ h => h.1.1) (x_of0 (by decide +kernel))
theorem l_c99 {a : Nat} {xs : Nat → Int32} {m0 : q_M} : l_ok (x_I m0 (xs (a + 1)) (xs (a + 2)) (xs (a + 3))) a xs (fun _ => x_wv m0 (xs (a + 1)) (xs (a + 2))) (339, [(0, 93), (3, 1)], (4, 0), (0, 1)) := l_of (ka_430 0) [(0, 93), (3, 1)] (4, 0) (by decide +kernel) (fun _ h => h.1.1) (x_of1 (by decide +kernel))
theorem l_c100 {a : Nat} {xs : Nat → Int32} {m0 : q_M} : l_ok (x_I m0 (xs (a + 1)) (xs (a + 2)) (xs (a + 3))) a xs (fun _ => x_wv m0 (xs (a + 1)) (xs (a + 2))) (73, [(0, 0), (3, 1), (3, 2)], (5, 0), (0, 0)) := l_of (ka_189 0) [(0, 0), (3, 1), (3, 2)] (5, 0) (by decide +kernel) (fun _ h => h.1.1) (x_of0 (by decide +kernel))
theorem l_c101 {a : Nat} {xs : Nat → Int32} {m0 : q_M} : l_ok (x_I m0 (xs (a + 1)) (xs (a + 2)) (xs (a + 3))) a xs (fun _ => x_wv m0 (xs (a + 1)) (xs (a + 2))) (340, [(0, 93), (3, 1), (3, 2)], (5, 0), (0, 1)) := l_of (ka_431 0) [(0, 93), (3, 1), (3, 2)] (5, 0) (by decide +kernel) (fun _ h => h.1.1) (x_of1 (by decide +kernel))
theorem l_c102 {a : Nat} {xs : Nat → Int32} {m0 : q_M} : l_ok (x_I m0 (xs (a + 1)) (xs (a + 2)) (xs (a + 3))) a xs (fun _ => x_wv m0 (xs (a + 1)) (xs (a + 2))) (107, [(0, 0), (3, 1)], (4, 0), (0, 0)) := l_of (ka_190 0) [(0, 0), (3, 1)] (4, 0) (by decide +kernel) (fun _ h => h.1.1) (x_of0 (by decide +kernel))
theorem l_c103 {a : Nat} {xs : Nat → Int32} {m0 : q_M} : l_ok (x_I m0 (xs (a + 1)) (xs (a + 2)) (xs (a + 3))) a xs (fun _ => x_wv m0 (xs (a + 1)) (xs (a + 2))) (341, [(0, 93), (3, 1)], (4, 0), (0, 1)) := l_of (ka_433 0) [(0, 93), (3, 1)] (4, 0) (by decide +kernel) (fun _ h => h.1.1) (x_of1 (by decide +kernel))
theorem l_c104 {a : Nat} {xs : Nat → Int32} {m0 : q_M} : l_ok (x_I m0 (xs (a + 1)) (xs (a + 2)) (xs (a + 3))) a xs (fun _ => x_wv m0 (xs (a + 1)) (xs (a + 2))) (108, [(0, 0)], (4, 0), (0, 0)) := l_of (ka_191 0) [(0, 0)] (4, 0) (by decide +kernel) (fun _ h => h.1.1) (x_of0 (by decide +kernel))
theorem l_c105 {a : Nat} {xs : Nat → Int32} {m0 : q_M} : l_ok (x_I m0 (xs (a + 1)) (xs (a + 2)) (xs (a + 3))) a xs (fun _ => x_wv m0 (xs (a + 1)) (xs (a + 2))) (343, [(0, 93)], (4, 0), (0, 1)) := l_of (ka_434 0) [(0, 93)] (4, 0) (by decide +kernel) (fun _ h => h.1.1) (x_of1 (by decide +kernel))
theorem l_c106 {a : Nat} {xs : Nat → Int32} {m0 : q_M} : l_ok (x_I m0 (xs (a + 1)) (xs (a + 2)) (xs (a + 3))) a xs (fun _ => x_wv m0 (xs (a + 1)) (xs (a + 2))) (134, [(0, 0), (3, 1)], (4, 0), (0, 0)) := l_of (ka_193 0) [(0, 0), (3, 1)] (4, 0) (by decide +kernel) (fun _ h => h.1.1) (x_of0 (by decide +kernel))
theorem l_c107 {a : Nat} {xs : Nat → Int32} {m0 : q_M} : l_ok (x_I m0 (xs (a + 1)) (xs (a + 2)) (xs (a + 3))) a xs (fun _ => x_wv m0 (xs (a + 1)) (xs (a + 2))) (344, [(0, 93), (3, 1)], (4, 0), (0, 1)) := l_of (ka_435 0) [(0, 93), (3, 1)] (4, 0) (by decide +kernel) (fun _ h => h.1.1) (x_of1 (by decide +kernel))
theorem l_c108 {a : Nat} {xs : Nat → Int32} {m0 : q_M} : l_ok (x_I m0 (xs (a + 1)) (xs (a + 2)) (xs (a + 3))) a xs (fun _ => x_wv m0 (xs (a + 1)) (xs (a + 2))) (136, [(0, 0)], (4, 0), (0, 0)) := l_of (ka_194 0) [(0, 0)] (4, 0) (by decide +kernel) (fun _ h => h.1.1) (x_of0 (by decide +kernel))
theorem l_c109 {a : Nat} {xs : Nat → Int32} {m0 : q_M} : l_ok (x_I m0 (xs (a + 1)) (xs (a + 2)) (xs (a + 3))) a xs (fun _ => x_wv m0 (xs (a + 1)) (xs (a + 2))) (345, [(0, 93)], (4, 0), (0, 1)) := l_of (ka_436 0) [(0, 93)] (4, 0) (by decide +kernel) (fun _ h => h.1.1) (x_of1 (by decide +kernel))
theorem l_c110 {a : Nat} {xs : Nat → Int32} {m0 : q_M} : l_ok (x_I m0 (xs (a + 1)) (xs (a + 2)) (xs (a + 3))) a xs (fun _ => x_wv m0 (xs (a + 1)) (xs (a + 2))) (75, [(0, 0), (3, 1), (3, 2)], (4, 0), (0, 0)) := l_of (ka_195 0) [(0, 0), (3, 1), (3, 2)] (4, 0) (by decide +kernel) (fun _ h => h.1.1) (x_of0 (by decide +kernel))
theorem l_c111 {a : Nat} {xs : Nat → Int32} {m0 : q_M} : l_ok (x_I m0 (xs (a + 1)) (xs (a + 2)) (xs (a + 3))) a xs (fun _ => x_wv m0 (xs (a + 1)) (xs (a + 2))) (346, [(0, 93), (3, 1), (3, 2)], (4, 0), (0, 1)) := l_of (ka_437 0) [(0, 93), (3, 1), (3, 2)] (4, 0) (by decide +kernel) (fun _ h => h.1.1) (x_of1 (by decide +kernel))
theorem l_c112 {a : Nat} {xs : Nat → Int32} {m0 : q_M} : l_ok (x_I m0 (xs (a + 1)) (xs (a + 2)) (xs (a + 3))) a xs (fun _ => x_wv m0 (xs (a + 1)) (xs (a + 2))) (109, [(0, 0)], (4, 0), (0, 0)) := l_of (ka_196 0) [(0, 0)] (4, 0) (by decide +kernel) (fun _ h => h.1.1) (x_of0 (by decide +kernel))
theorem l_c113 {a : Nat} {xs : Nat → Int32} {m0 : q_M} : l_ok (x_I m0 (xs (a + 1)) (xs (a + 2)) (xs (a + 3))) a xs (fun _ => x_wv m0 (xs (a + 1)) (xs (a + 2))) (347, [(0, 93)], (4, 0), (0, 1)) := l_of (ka_438 0) [(0, 93)] (4, 0) (by decide +kernel) (fun _ h => h.1.1) (x_of1 (by decide +kernel))
theorem l_c114 {a : Nat} {xs : Nat → Int32} {m0 : q_M} : l_ok (x_I m0 (xs (a + 1)) (xs (a + 2)) (xs (a + 3))) a xs (fun _ => x_wv m0 (xs (a + 1)) (xs (a + 2))) (110, [(0, 0)], (4, 0), (0, 0)) := l_of (ka_197 0) [(0, 0)] (4, 0) (by decide +kernel) (fun _ h => h.1.1) (x_of0 (by decide +kernel))
theorem l_c115 {a : Nat} {xs : Nat → Int32} {m0 : q_M} : l_ok (x_I m0 (xs (a + 1)) (xs (a + 2)) (xs (a + 3))) a xs (fun _ => x_wv m0 (xs (a + 1)) (xs (a + 2))) (348, [(0, 93)], (4, 0), (0, 1)) := l_of (ka_439 0) [(0, 93)] (4, 0) (by decide +kernel) (fun _ h => h.1.1) (x_of1 (by decide +kernel))
theorem l_c116 {a : Nat} {xs : Nat → Int32} {m0 : q_M} : l_ok (x_I m0 (xs (a + 1)) (xs (a + 2)) (xs (a + 3))) a xs (fun _ => x_wv m0 (xs (a + 1)) (xs (a + 2))) (111, [(0, 0), (3, 1)], (4, 0), (0, 0)) := l_of (ka_198 0) [(0, 0), (3, 1)] (4, 0) (by decide +kernel) (fun _ h => h.1.1) (x_of0 (by decide +kernel))
theorem l_c117 {a : Nat} {xs : Nat → Int32} {m0 : q_M} : l_ok (x_I m0 (xs (a + 1)) (xs (a + 2)) (xs (a + 3))) a xs (fun _ => x_wv m0 (xs (a + 1)) (xs (a + 2))) (349, [(0, 93), (3, 1)], (4, 0), (0, 1)) := l_of (ka_440 0) [(0, 93), (3, 1)] (4, 0) (by decide +kernel) (fun _ h => h.1.1) (x_of1 (by decide +kernel))
theorem l_c118 {a : Nat} {xs : Nat → Int32} {m0 : q_M} : l_ok (x_I m0 (xs (a + 1)) (xs (a + 2)) (xs (a + 3))) a xs (fun _ => x_wv m0 (xs (a + 1)) (xs (a + 2))) (112, [(0, 0), (3, 1)], (4, 0), (0, 0)) := l_of (ka_199 0) [(0, 0), (3, 1)] (4, 0) (by decide +kernel) (fun _ h => h.1.1) (x_of0 (by decide +kernel))
theorem l_c119 {a : Nat} {xs : Nat → Int32} {m0 : q_M} : l_ok (x_I m0 (xs (a + 1)) (xs (a + 2)) (xs (a + 3))) a xs (fun _ => x_wv m0 (xs (a + 1)) (xs (a + 2))) (350, [(0, 93), (3, 1)], (4, 0), (0, 1)) := l_of (ka_441 0) [(0, 93), (3, 1)] (4, 0) (by decide +kernel) (fun _ h => h.1.1) (x_of1 (by decide +kernel))
theorem l_c120 {a : Nat} {xs : Nat → Int32} {m0 : q_M} : l_ok (x_I m0 (xs (a + 1)) (xs (a + 2)) (xs (a + 3))) a xs (fun _ => x_wv m0 (xs (a + 1)) (xs (a + 2))) (137, [(0, 0), (3, 1)], (4, 0), (0, 0)) := l_of (ka_201 0) [(0, 0), (3, 1)] (4, 0) (by decide +kernel) (fun _ h => h.1.1) (x_of0 (by decide +kernel))
theorem l_c121 {a : Nat} {xs : Nat → Int32} {m0 : q_M} : l_ok (x_I m0 (xs (a + 1)) (xs (a + 2)) (xs (a + 3))) a xs (fun _ => x_wv m0 (xs (a + 1)) (xs (a + 2))) (351, [(0, 93), (3, 1)], (4, 0), (0, 1)) := l_of (ka_442 0) [(0, 93), (3, 1)] (4, 0) (by decide +kernel) (fun _ h => h.1.1) (x_of1 (by decide +kernel))
theorem l_c122 {a : Nat} {xs : Nat → Int32} {m0 : q_M} : l_ok (x_I m0 (xs (a + 1)) (xs (a + 2)) (xs (a + 3))) a xs (fun _ => x_wv m0 (xs (a + 1)) (xs (a + 2))) (76, [(0, 0), (3, 1), (3, 2)], (4, 0), (0, 0)) := l_of (ka_202 0) [(0, 0), (3, 1), (3, 2)] (4, 0) (by decide +kernel) (fun _ h => h.1.1) (x_of0 (by decide +kernel))
theorem l_c123 {a : Nat} {xs : Nat → Int32} {m0 : q_M} : l_ok (x_I m0 (xs (a + 1)) (xs (a + 2)) (xs (a + 3))) a xs (fun _ => x_wv m0 (xs (a + 1)) (xs (a + 2))) (356, [(0, 93), (3, 1), (3, 2)], (4, 0), (0, 1)) := l_of (ka_443 0) [(0, 93), (3, 1), (3, 2)] (4, 0) (by decide +kernel) (fun _ h => h.1.1) (x_of1 (by decide +kernel))
theorem l_c124 {a : Nat} {xs : Nat → Int32} {m0 : q_M} : l_ok (x_I m0 (xs (a + 1)) (xs (a + 2)) (xs (a + 3))) a xs (fun _ => x_wv m0 (xs (a + 1)) (xs (a + 2))) (89, [(0, 0), (3, 1), (3, 2), (3, 3)], (4, 0), (0, 0)) := l_of (ka_211 0) [(0, 0), (3, 1), (3, 2), (3, 3)] (4, 0) (by decide +kernel) (fun _ h => h.1.1) (x_of0 (by decide +kernel))
theorem l_c125 {a : Nat} {xs : Nat → Int32} {m0 : q_M} : l_ok (x_I m0 (xs (a + 1)) (xs (a + 2)) (xs (a + 3))) a xs (fun _ => x_wv m0 (xs (a + 1)) (xs (a + 2))) (352, [(0, 93), (3, 1), (3, 2), (3, 3)], (4, 0), (0, 1)) := l_of (ka_446 0) [(0, 93), (3, 1), (3, 2), (3, 3)] (4, 0) (by decide +kernel) (fun _ h => h.1.1) (x_of1 (by decide +kernel))
theorem l_c126 {a : Nat} {xs : Nat → Int32} {m0 : q_M} : l_ok (x_I m0 (xs (a + 1)) (xs (a + 2)) (xs (a + 3))) a xs (fun _ => x_wv m0 (xs (a + 1)) (xs (a + 2))) (97, [(0, 0), (3, 1)], (4, 0), (0, 0)) := l_of (ka_212 0) [(0, 0), (3, 1)] (4, 0) (by decide +kernel) (fun _ h => h.1.1) (x_of0 (by decide +kernel))
theorem l_c127 {a : Nat} {xs : Nat → Int32} {m0 : q_M} : l_ok (x_I m0 (xs (a + 1)) (xs (a + 2)) (xs (a + 3))) a xs (fun _ => x_wv m0 (xs (a + 1)) (xs (a + 2))) (355, [(0, 93), (3, 1)], (4, 0), (0, 1)) := l_of (ka_447 0) [(0, 93), (3, 1)] (4, 0) (by decide +kernel) (fun _ h => h.1.1) (x_of1 (by decide +kernel))
theorem l_c128 {a : Nat} {xs : Nat → Int32} {m0 : q_M} : l_ok (x_I m0 (xs (a + 1)) (xs (a + 2)) (xs (a + 3))) a xs (fun _ => x_wv m0 (xs (a + 1)) (xs (a + 2))) (77, [(0, 0), (3, 1), (3, 2), (3, 3)], (4, 0), (0, 0)) := l_of (ka_214 0) [(0, 0), (3, 1), (3, 2), (3, 3)] (4, 0) (by decide +kernel) (fun _ h => h.1.1) (x_of0 (by decide +kernel))
theorem l_c129 {a : Nat} {xs : Nat → Int32} {m0 : q_M} : l_ok (x_I m0 (xs (a + 1)) (xs (a + 2)) (xs (a + 3))) a xs (fun _ => x_wv m0 (xs (a + 1)) (xs (a + 2))) (357, [(0, 93), (3, 1), (3, 2), (3, 3)], (4, 0), (0, 1)) := l_of (ka_449 0) [(0, 93), (3, 1), (3, 2), (3, 3)] (4, 0) (by decide +kernel) (fun _ h => h.1.1) (x_of1 (by decide +kernel))
theorem l_c130 {a : Nat} {xs : Nat → Int32} {m0 : q_M} : l_ok (x_I m0 (xs (a + 1)) (xs (a + 2)) (xs (a + 3))) a xs (fun _ => x_wv m0 (xs (a + 1)) (xs (a + 2))) (201, [(0, 0), (3, 1), (3, 2), (3, 3)], (4, 0), (0, 0)) := l_of (ka_217 0) [(0, 0), (3, 1), (3, 2), (3, 3)] (4, 0) (by decide +kernel) (fun _ h => h.1.1) (x_of0 (by decide +kernel))
theorem l_c131 {a : Nat} {xs : Nat → Int32} {m0 : q_M} : l_ok (x_I m0 (xs (a + 1)) (xs (a + 2)) (xs (a + 3))) a xs (fun _ => x_wv m0 (xs (a + 1)) (xs (a + 2))) (359, [(0, 93), (3, 1), (3, 2), (3, 3)], (4, 0), (0, 1)) := l_of (ka_454 0) [(0, 93), (3, 1), (3, 2), (3, 3)] (4, 0) (by decide +kernel) (fun _ h => h.1.1) (x_of1 (by decide +kernel))
theorem l_c132 {a : Nat} {xs : Nat → Int32} {m0 : q_M} : l_ok (x_I m0 (xs (a + 1)) (xs (a + 2)) (xs (a + 3))) a xs (fun _ => x_wv m0 (xs (a + 1)) (xs (a + 2))) (204, [(0, 0), (3, 1), (3, 2), (3, 3), (3, 4)], (4, 0), (0, 0)) := l_of (ka_218 0) [(0, 0), (3, 1), (3, 2), (3, 3), (3, 4)] (4, 0) (by decide +kernel) (fun _ h => h.1.1) (x_of0 (by decide +kernel))
theorem l_c133 {a : Nat} {xs : Nat → Int32} {m0 : q_M} : l_ok (x_I m0 (xs (a + 1)) (xs (a + 2)) (xs (a + 3))) a xs (fun _ => x_wv m0 (xs (a + 1)) (xs (a + 2))) (364, [(0, 93), (3, 1), (3, 2), (3, 3), (3, 4)], (4, 0), (0, 1)) := l_of (ka_455 0) [(0, 93), (3, 1), (3, 2), (3, 3), (3, 4)] (4, 0) (by decide +kernel) (fun _ h => h.1.1) (x_of1 (by decide +kernel))
theorem l_c134 {a : Nat} {xs : Nat → Int32} {m0 : q_M} : l_ok (x_I m0 (xs (a + 1)) (xs (a + 2)) (xs (a + 3))) a xs (fun _ => x_wv m0 (xs (a + 1)) (xs (a + 2))) (205, [(0, 0), (3, 1)], (4, 0), (0, 0)) := l_of (ka_220 0) [(0, 0), (3, 1)] (4, 0) (by decide +kernel) (fun _ h => h.1.1) (x_of0 (by decide +kernel))
theorem l_c135 {a : Nat} {xs : Nat → Int32} {m0 : q_M} : l_ok (x_I m0 (xs (a + 1)) (xs (a + 2)) (xs (a + 3))) a xs (fun _ => x_wv m0 (xs (a + 1)) (xs (a + 2))) (365, [(0, 93), (3, 1)], (4, 0), (0, 1)) := l_of (ka_456 0) [(0, 93), (3, 1)] (4, 0) (by decide +kernel) (fun _ h => h.1.1) (x_of1 (by decide +kernel))
theorem l_c136 {a : Nat} {xs : Nat → Int32} {m0 : q_M} : l_ok (x_I m0 (xs (a + 1)) (xs (a + 2)) (xs (a + 3))) a xs (fun _ => x_wv m0 (xs (a + 1)) (xs (a + 2))) (207, [(0, 0), (3, 1)], (4, 0), (0, 2)) := x_okiC
theorem l_c137 {a : Nat} {xs : Nat → Int32} {m0 : q_M} : l_ok (x_I m0 (xs (a + 1)) (xs (a + 2)) (xs (a + 3))) a xs (fun _ => x_wv m0 (xs (a + 1)) (xs (a + 2))) (217, [(0, 93), (3, 1)], (4, 0), (2, 1)) := x_okiM
theorem l_c138 {a : Nat} {xs : Nat → Int32} {m0 : q_M} : l_ok (x_I m0 (xs (a + 1)) (xs (a + 2)) (xs (a + 3))) a xs (fun _ => x_wv m0 (xs (a + 1)) (xs (a + 2))) (208, [(0, 0), (3, 1)], (4, 0), (0, 0)) := l_of (ka_228 0) [(0, 0), (3, 1)] (4, 0) (by decide +kernel) (fun _ h => h.1.1) (x_of0 (by decide +kernel))
theorem l_c139 {a : Nat} {xs : Nat → Int32} {m0 : q_M} : l_ok (x_I m0 (xs (a + 1)) (xs (a + 2)) (xs (a + 3))) a xs (fun _ => x_wv m0 (xs (a + 1)) (xs (a + 2))) (219, [(0, 93), (3, 1)], (4, 0), (0, 1)) := l_of (ka_458 0) [(0, 93), (3, 1)] (4, 0) (by decide +kernel) (fun _ h => h.1.1) (x_of1 (by decide +kernel))
theorem l_c140 {a : Nat} {xs : Nat → Int32} {m0 : q_M} : l_ok (x_I m0 (xs (a + 1)) (xs (a + 2)) (xs (a + 3))) a xs (fun _ => x_wv m0 (xs (a + 1)) (xs (a + 2))) (209, [(0, 0), (3, 1), (3, 2), (3, 3)], (4, 0), (0, 3)) := x_okrC
theorem l_c141 {a : Nat} {xs : Nat → Int32} {m0 : q_M} : l_ok (x_I m0 (xs (a + 1)) (xs (a + 2)) (xs (a + 3))) a xs (fun _ => x_wv m0 (xs (a + 1)) (xs (a + 2))) (366, [(0, 93), (3, 1), (3, 2), (3, 3)], (4, 0), (3, 1)) := x_okrM
theorem l_c142 {a : Nat} {xs : Nat → Int32} {m0 : q_M} : l_ok (x_I m0 (xs (a + 1)) (xs (a + 2)) (xs (a + 3))) a xs (fun _ => x_wv m0 (xs (a + 1)) (xs (a + 2))) (212, [(0, 0), (3, 1), (3, 2), (5, 0)], (7, 0), (0, 0)) := x_okwC
theorem l_c143 {a : Nat} {xs : Nat → Int32} {m0 : q_M} : l_ok (x_I m0 (xs (a + 1)) (xs (a + 2)) (xs (a + 3))) a xs (fun _ => x_wv m0 (xs (a + 1)) (xs (a + 2))) (367, [(0, 93), (3, 1), (3, 2), (5, 0)], (7, 0), (0, 1)) := x_okwM
theorem l_c144 {a : Nat} {xs : Nat → Int32} {m0 : q_M} : l_ok (x_I m0 (xs (a + 1)) (xs (a + 2)) (xs (a + 3))) a xs (fun _ => x_wv m0 (xs (a + 1)) (xs (a + 2))) (215, [(0, 0), (3, 1), (3, 2), (3, 3), (3, 4), (3, 5)], (4, 0), (0, 0)) := l_of (ka_243 0) [(0, 0), (3, 1), (3, 2), (3, 3), (3, 4), (3, 5)] (4, 0) (by decide +kernel) (fun _ h => h.1.1) (x_of0 (by decide +kernel))
theorem l_c145 {a : Nat} {xs : Nat → Int32} {m0 : q_M} : l_ok (x_I m0 (xs (a + 1)) (xs (a + 2)) (xs (a + 3))) a xs (fun _ => x_wv m0 (xs (a + 1)) (xs (a + 2))) (369, [(0, 93), (3, 1), (3, 2), (3, 3), (3, 4), (3, 5)], (4, 0), (0, 1)) := l_of (ka_462 0) [(0, 93), (3, 1), (3, 2), (3, 3), (3, 4), (3, 5)] (4, 0) (by decide +kernel) (fun _ h => h.1.1) (x_of1 (by decide +kernel))
set_option maxRecDepth 100000 in
theorem l_cs_ok {a : Nat} {xs : Nat → Int32} {m0 : q_M} : ∀ c ∈ l_cs, l_ok (x_I m0 (xs (a + 1)) (xs (a + 2)) (xs (a + 3))) a xs (fun _ => x_wv m0 (xs (a + 1)) (xs (a + 2))) c := by
  exact (List.forall_mem_cons.mpr ⟨l_c0, (List.forall_mem_cons.mpr ⟨l_c1, (List.forall_mem_cons.mpr ⟨l_c2, (List.forall_mem_cons.mpr ⟨l_c3, (List.forall_mem_cons.mpr ⟨l_c4, (List.forall_mem_cons.mpr ⟨l_c5, (List.forall_mem_cons.mpr ⟨l_c6, (List.forall_mem_cons.mpr ⟨l_c7, (List.forall_mem_cons.mpr ⟨l_c8, (List.forall_mem_cons.mpr ⟨l_c9, (List.forall_mem_cons.mpr ⟨l_c10, (List.forall_mem_cons.mpr ⟨l_c11, (List.forall_mem_cons.mpr ⟨l_c12, (List.forall_mem_cons.mpr ⟨l_c13, (List.forall_mem_cons.mpr ⟨l_c14, (List.forall_mem_cons.mpr ⟨l_c15, (List.forall_mem_cons.mpr ⟨l_c16, (List.forall_mem_cons.mpr ⟨l_c17, (List.forall_mem_cons.mpr ⟨l_c18, (List.forall_mem_cons.mpr ⟨l_c19, (List.forall_mem_cons.mpr ⟨l_c20, (List.forall_mem_cons.mpr ⟨l_c21, (List.forall_mem_cons.mpr ⟨l_c22, (List.forall_mem_cons.mpr ⟨l_c23, (List.forall_mem_cons.mpr ⟨l_c24, (List.forall_mem_cons.mpr ⟨l_c25, (List.forall_mem_cons.mpr ⟨l_c26, (List.forall_mem_cons.mpr ⟨l_c27, (List.forall_mem_cons.mpr ⟨l_c28, (List.forall_mem_cons.mpr ⟨l_c29, (List.forall_mem_cons.mpr ⟨l_c30, (List.forall_mem_cons.mpr ⟨l_c31, (List.forall_mem_cons.mpr ⟨l_c32, (List.forall_mem_cons.mpr ⟨l_c33, (List.forall_mem_cons.mpr ⟨l_c34, (List.forall_mem_cons.mpr ⟨l_c35, (List.forall_mem_cons.mpr ⟨l_c36, (List.forall_mem_cons.mpr ⟨l_c37, (List.forall_mem_cons.mpr ⟨l_c38, (List.forall_mem_cons.mpr ⟨l_c39, (List.forall_mem_cons.mpr ⟨l_c40, (List.forall_mem_cons.mpr ⟨l_c41, (List.forall_mem_cons.mpr ⟨l_c42, (List.forall_mem_cons.mpr ⟨l_c43, (List.forall_mem_cons.mpr ⟨l_c44, (List.forall_mem_cons.mpr ⟨l_c45, (List.forall_mem_cons.mpr ⟨l_c46, (List.forall_mem_cons.mpr ⟨l_c47, (List.forall_mem_cons.mpr ⟨l_c48, (List.forall_mem_cons.mpr ⟨l_c49, (List.forall_mem_cons.mpr ⟨l_c50, (List.forall_mem_cons.mpr ⟨l_c51, (List.forall_mem_cons.mpr ⟨l_c52, (List.forall_mem_cons.mpr ⟨l_c53, (List.forall_mem_cons.mpr ⟨l_c54, (List.forall_mem_cons.mpr ⟨l_c55, (List.forall_mem_cons.mpr ⟨l_c56, (List.forall_mem_cons.mpr ⟨l_c57, (List.forall_mem_cons.mpr ⟨l_c58, (List.forall_mem_cons.mpr ⟨l_c59, (List.forall_mem_cons.mpr ⟨l_c60, (List.forall_mem_cons.mpr ⟨l_c61, (List.forall_mem_cons.mpr ⟨l_c62, (List.forall_mem_cons.mpr ⟨l_c63, (List.forall_mem_cons.mpr ⟨l_c64, (List.forall_mem_cons.mpr ⟨l_c65, (List.forall_mem_cons.mpr ⟨l_c66, (List.forall_mem_cons.mpr ⟨l_c67, (List.forall_mem_cons.mpr ⟨l_c68, (List.forall_mem_cons.mpr ⟨l_c69, (List.forall_mem_cons.mpr ⟨l_c70, (List.forall_mem_cons.mpr ⟨l_c71, (List.forall_mem_cons.mpr ⟨l_c72, (List.forall_mem_cons.mpr ⟨l_c73, (List.forall_mem_cons.mpr ⟨l_c74, (List.forall_mem_cons.mpr ⟨l_c75, (List.forall_mem_cons.mpr ⟨l_c76, (List.forall_mem_cons.mpr ⟨l_c77, (List.forall_mem_cons.mpr ⟨l_c78, (List.forall_mem_cons.mpr ⟨l_c79, (List.forall_mem_cons.mpr ⟨l_c80, (List.forall_mem_cons.mpr ⟨l_c81, (List.forall_mem_cons.mpr ⟨l_c82, (List.forall_mem_cons.mpr ⟨l_c83, (List.forall_mem_cons.mpr ⟨l_c84, (List.forall_mem_cons.mpr ⟨l_c85, (List.forall_mem_cons.mpr ⟨l_c86, (List.forall_mem_cons.mpr ⟨l_c87, (List.forall_mem_cons.mpr ⟨l_c88, (List.forall_mem_cons.mpr ⟨l_c89, (List.forall_mem_cons.mpr ⟨l_c90, (List.forall_mem_cons.mpr ⟨l_c91, (List.forall_mem_cons.mpr ⟨l_c92, (List.forall_mem_cons.mpr ⟨l_c93, (List.forall_mem_cons.mpr ⟨l_c94, (List.forall_mem_cons.mpr ⟨l_c95, (List.forall_mem_cons.mpr ⟨l_c96, (List.forall_mem_cons.mpr ⟨l_c97, (List.forall_mem_cons.mpr ⟨l_c98, (List.forall_mem_cons.mpr ⟨l_c99, (List.forall_mem_cons.mpr ⟨l_c100, (List.forall_mem_cons.mpr ⟨l_c101, (List.forall_mem_cons.mpr ⟨l_c102, (List.forall_mem_cons.mpr ⟨l_c103, (List.forall_mem_cons.mpr ⟨l_c104, (List.forall_mem_cons.mpr ⟨l_c105, (List.forall_mem_cons.mpr ⟨l_c106, (List.forall_mem_cons.mpr ⟨l_c107, (List.forall_mem_cons.mpr ⟨l_c108, (List.forall_mem_cons.mpr ⟨l_c109, (List.forall_mem_cons.mpr ⟨l_c110, (List.forall_mem_cons.mpr ⟨l_c111, (List.forall_mem_cons.mpr ⟨l_c112, (List.forall_mem_cons.mpr ⟨l_c113, (List.forall_mem_cons.mpr ⟨l_c114, (List.forall_mem_cons.mpr ⟨l_c115, (List.forall_mem_cons.mpr ⟨l_c116, (List.forall_mem_cons.mpr ⟨l_c117, (List.forall_mem_cons.mpr ⟨l_c118, (List.forall_mem_cons.mpr ⟨l_c119, (List.forall_mem_cons.mpr ⟨l_c120, (List.forall_mem_cons.mpr ⟨l_c121, (List.forall_mem_cons.mpr ⟨l_c122, (List.forall_mem_cons.mpr ⟨l_c123, (List.forall_mem_cons.mpr ⟨l_c124, (List.forall_mem_cons.mpr ⟨l_c125, (List.forall_mem_cons.mpr ⟨l_c126, (List.forall_mem_cons.mpr ⟨l_c127, (List.forall_mem_cons.mpr ⟨l_c128, (List.forall_mem_cons.mpr ⟨l_c129, (List.forall_mem_cons.mpr ⟨l_c130, (List.forall_mem_cons.mpr ⟨l_c131, (List.forall_mem_cons.mpr ⟨l_c132, (List.forall_mem_cons.mpr ⟨l_c133, (List.forall_mem_cons.mpr ⟨l_c134, (List.forall_mem_cons.mpr ⟨l_c135, (List.forall_mem_cons.mpr ⟨l_c136, (List.forall_mem_cons.mpr ⟨l_c137, (List.forall_mem_cons.mpr ⟨l_c138, (List.forall_mem_cons.mpr ⟨l_c139, (List.forall_mem_cons.mpr ⟨l_c140, (List.forall_mem_cons.mpr ⟨l_c141, (List.forall_mem_cons.mpr ⟨l_c142, (List.forall_mem_cons.mpr ⟨l_c143, (List.forall_mem_cons.mpr ⟨l_c144, (List.forall_mem_cons.mpr ⟨l_c145, (fun _ h => absurd h List.not_mem_nil)⟩)⟩)⟩)⟩)⟩)⟩)⟩)⟩)⟩)⟩)⟩)⟩)⟩)⟩)⟩)⟩)⟩)⟩)⟩)⟩)⟩)⟩)⟩)⟩)⟩)⟩)⟩)⟩)⟩)⟩)⟩)⟩)⟩)⟩)⟩)⟩)⟩)⟩)⟩)⟩)⟩)⟩)⟩)⟩)⟩)⟩)⟩)⟩)⟩)⟩)⟩)⟩)⟩)⟩)⟩)⟩)⟩)⟩)⟩)⟩)⟩)⟩)⟩)⟩)⟩)⟩)⟩)⟩)⟩)⟩)⟩)⟩)⟩)⟩)⟩)⟩)⟩)⟩)⟩)⟩)⟩)⟩)⟩)⟩)⟩)⟩)⟩)⟩)⟩)⟩)⟩)⟩)⟩)⟩)⟩)⟩)⟩)⟩)⟩)⟩)⟩)⟩)⟩)⟩)⟩)⟩)⟩)⟩)⟩)⟩)⟩)⟩)⟩)⟩)⟩)⟩)⟩)⟩)⟩)⟩)⟩)⟩)⟩)⟩)⟩)⟩)⟩)⟩)⟩)⟩)⟩)⟩)⟩)⟩)⟩)⟩)⟩)⟩)⟩)⟩)⟩)⟩)⟩)⟩)⟩)⟩)
set_option maxRecDepth 100000 in
theorem l_cs_chk : l_chk l_cs = true := by decide +kernel
set_option maxRecDepth 100000 in
theorem x_R0 : (decide (q_i t_m1 0 5 = q_i t_m1 96 0 + 2 * q_i t_m1 96 1 + 4 * q_i t_m1 96 2) && (List.range 4).all (fun s => decide (q_i t_m1 (85 + 2 * s) 2 = q_i t_m1 114 s ∧ q_i t_m1 (85 + 2 * s) 1 = q_i t_m1 115 s))) = true := by decide +kernel
theorem x_J0 : x_J t_m1 := by
  have h := x_R0
  rw [Bool.and_eq_true, decide_eq_true_eq] at h
  exact ⟨t_lJ, h.1, fun s hs => of_decide_eq_true (List.all_eq_true.mp h.2 s (List.mem_range.mpr hs))⟩
theorem law_ends {L : Nat} {xs : Nat → Int32} (hL : L ≤ 3072) : l_go L xs 0 [(0, .retAddr 0)] [] [] :=
  l_begin (fun l hl => l_loop (J := x_J) (fun m h => l_J_sz h.1) l_cs_chk hL (fun a _ m0 hm => ⟨(fun _ => x_wv m0 (xs (a + 1)) (xs (a + 2))), (x_I m0 (xs (a + 1)) (xs (a + 2)) (xs (a + 3))), ⟨hm, fun _ _ => rfl, fun _ _ => ⟨rfl, rfl⟩⟩, fun _ h => h, l_cs_ok⟩) (L + 6) 0 l t_m1 (by omega) (by omega) hl x_J0)

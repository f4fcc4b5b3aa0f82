def xr_C02 : b_Con := (209, [.inr (.inl 0), .inl (false, (-2147483648), 2147483647), .inl (false, (-2147483648), 2147483647), .inl (false, (-2147483648), 2147483647)], [x_o], [(85, 1, 1), (85, 2, 2), (86, 0, 59)], [])
set_option maxRecDepth 100000 in
theorem xr_C02_k : b_chkG r_hk q_D kc_I r_fp 3000 xr_C02 [142, 210] [kc_229] []
   [(43, [], [], [((2, [(0, 0, 3), (1, 0, 60)], [], [(85, ([], 1), (false, ([(0, 1)], 0))), (85, ([], 2), (false, ([(1, 1)], 0)))], [(43, [([(1, 1)], 0)])]), [(0, .inr (.inl 0)), (1, .inl (false, ([], 0))), (2, .inl (false, ([(0, 1)], 0))), (3, .inl (false, ([(1, 1)], 0)))], ([], 0))])] 0 43
   ((2, [(0, 0, 3), (1, 0, 60)], [], [], [(43, [([(1, 1)], 0)])]), b_lvs 0 [.inr (.inl 0), .inl (false, ([], 0)), .inl (false, ([(0, 1)], 0)), .inl (false, ([(1, 1)], 0))], ([], 0)) = true := by decide +kernel
theorem xr_C02_p {m : q_M} (hM : bi_M kc_I m) (w n : Int32) (w0 : 0 ≤ w.toInt) (w1 : w.toInt ≤ 3) (n0 : 0 ≤ n.toInt) (n1 : n.toInt ≤ 60) : ∃ (k : Nat) (m1 : q_M), q_run q_D k q_m209 0 (lv_args 0 [.ref 0, .int 0, .int w, .int n]) [] m = some (some (.int 0), m1) ∧ bi_M kc_I m1 ∧ q_same [(85, 1, 1), (85, 2, 2), (86, 0, 59)] m m1 ∧ q_i m1 85 2 = n.toInt :=
  x_run (P := fun m => q_i m 85 2 = n.toInt) (g := n.toInt) (c := xr_C02) rfl xr_C02_k (fun d hd => by rw [List.mem_singleton.mp hd]; exact kb_229 x_K1 _) rfl (fun _ _ => rfl) (fun x hx hl T hT zs m e => by
    have e1 := List.mem_singleton.mp hx
    subst e1
    have e2 := List.mem_singleton.mp hT
    subst e2
    obtain ⟨z, z1, z2⟩ := x_O' (c := 85) (j := 2) (e.2.2.2.1 (85, ([], 2), (false, ([(1, 1)], 0))) (by decide))
    obtain ⟨ys, y1, y2⟩ := e.2.2.2.2 (43, [([(1, 1)], 0)]) (by decide)
    obtain ⟨y, ys1, rfl, hy, hs⟩ := g_ca y1
    have e4 := g_na hs
    subst e4
    have y2 : y = n.toInt := y2
    exact z2.trans ((b_is_uniq z1 hy).trans y2)) (zs := [w.toInt, n.toInt]) ⟨rfl, x_B rfl w0 w1 (x_B rfl n0 n1 x_B0), x_C0, x_M0, x_Q ⟨[n.toInt], ⟨b_is_var rfl, trivial⟩, rfl⟩ x_Q0⟩ (b_lvs_ok 0 ⟨rfl, ⟨0, rfl, b_is_c 0⟩, ⟨w, rfl, b_is_var rfl⟩, ⟨n, rfl, b_is_var rfl⟩, trivial⟩) hM
def xr_M02 : b_Con := (366, [.inr (.inl 93), .inl (false, (-2147483648), 2147483647), .inl (false, (-2147483648), 2147483647), .inl (false, (-2147483648), 2147483647)], [x_o], [(114, 0, 0), (115, 0, 0), (116, 0, 59)], [])
set_option maxRecDepth 100000 in
theorem xr_M02_k : b_chkG r_hk q_D kc_I r_fp 3000 xr_M02 [218, 294] [] []
   [(52, [], [], [((3, [(0, 0, 3), (1, 0, 60), (2, 0, 60)], [], [(114, ([], 0), (false, ([(1, 1)], 0))), (115, ([], 0), (false, ([(0, 1)], 0)))], [(43, [([(1, 1)], 0)])]), [(0, .inr (.inl 93)), (1, .inl (false, ([], 0))), (2, .inl (false, ([(0, 1)], 0))), (3, .inl (false, ([(1, 1)], 0))), (4, .inl (false, ([(2, 1)], 0)))], ([(2, (-1))], 61))]), (78, [], [], [((3, [(0, 0, 3), (1, 0, 60), (2, 0, 60)], [], [(114, ([], 0), (false, ([(1, 1)], 0))), (115, ([], 0), (false, ([(0, 1)], 0)))], [(43, [([(1, 1)], 0)])]), [(0, .inr (.inl 93)), (1, .inl (false, ([], 0))), (2, .inl (false, ([(0, 1)], 0))), (3, .inl (false, ([(1, 1)], 0))), (4, .inl (false, ([(2, 1)], 0)))], ([], 0))])] 0 78
   ((2, [(0, 0, 3), (1, 0, 60)], [], [], [(43, [([(1, 1)], 0)])]), b_lvs 0 [.inr (.inl 93), .inl (false, ([], 0)), .inl (false, ([(0, 1)], 0)), .inl (false, ([(1, 1)], 0))], ([], 0)) = true := by decide +kernel
theorem xr_M02_p {m : q_M} (hM : bi_M kc_I m) (w n : Int32) (w0 : 0 ≤ w.toInt) (w1 : w.toInt ≤ 3) (n0 : 0 ≤ n.toInt) (n1 : n.toInt ≤ 60) : ∃ (k : Nat) (m1 : q_M), q_run q_D k q_m366 0 (lv_args 0 [.ref 93, .int 0, .int w, .int n]) [] m = some (some (.int 0), m1) ∧ bi_M kc_I m1 ∧ q_same [(114, 0, 0), (115, 0, 0), (116, 0, 59)] m m1 ∧ q_i m1 114 0 = n.toInt :=
  x_run (P := fun m => q_i m 114 0 = n.toInt) (g := n.toInt) (c := xr_M02) rfl xr_M02_k (fun d hd => by cases hd) rfl (fun _ _ => rfl) (fun x hx hl T hT zs m e => by
    rcases List.mem_cons.mp hx with e1 | e1
    · subst e1
      exact absurd hl (by decide)
    have e1 := List.mem_singleton.mp e1
    subst e1
    have e2 := List.mem_singleton.mp hT
    subst e2
    obtain ⟨z, z1, z2⟩ := x_O' (c := 114) (j := 0) (e.2.2.2.1 (114, ([], 0), (false, ([(1, 1)], 0))) (by decide))
    obtain ⟨ys, y1, y2⟩ := e.2.2.2.2 (43, [([(1, 1)], 0)]) (by decide)
    obtain ⟨y, ys1, rfl, hy, hs⟩ := g_ca y1
    have e4 := g_na hs
    subst e4
    have y2 : y = n.toInt := y2
    exact z2.trans ((b_is_uniq z1 hy).trans y2)) (zs := [w.toInt, n.toInt]) ⟨rfl, x_B rfl w0 w1 (x_B rfl n0 n1 x_B0), x_C0, x_M0, x_Q ⟨[n.toInt], ⟨b_is_var rfl, trivial⟩, rfl⟩ x_Q0⟩ (b_lvs_ok 0 ⟨rfl, ⟨0, rfl, b_is_c 0⟩, ⟨w, rfl, b_is_var rfl⟩, ⟨n, rfl, b_is_var rfl⟩, trivial⟩) hM
def xr_C01 : b_Con := (209, [.inr (.inl 0), .inl (false, (-2147483648), 2147483647), .inl (false, (-2147483648), 2147483647), .inl (false, (-2147483648), 2147483647)], [x_o], [(85, 1, 1), (85, 2, 2), (86, 0, 59)], [])
set_option maxRecDepth 100000 in
theorem xr_C01_k : b_chkG r_hk q_D kc_I r_fp 3000 xr_C01 [142, 210] [kc_229] []
   [(43, [], [], [((2, [(0, 0, 3), (1, 0, 60)], [], [(85, ([], 1), (false, ([(0, 1)], 0))), (85, ([], 2), (false, ([(1, 1)], 0)))], [(43, [([(0, 1)], 0)])]), [(0, .inr (.inl 0)), (1, .inl (false, ([], 0))), (2, .inl (false, ([(0, 1)], 0))), (3, .inl (false, ([(1, 1)], 0)))], ([], 0))])] 0 43
   ((2, [(0, 0, 3), (1, 0, 60)], [], [], [(43, [([(0, 1)], 0)])]), b_lvs 0 [.inr (.inl 0), .inl (false, ([], 0)), .inl (false, ([(0, 1)], 0)), .inl (false, ([(1, 1)], 0))], ([], 0)) = true := by decide +kernel
theorem xr_C01_p {m : q_M} (hM : bi_M kc_I m) (w n : Int32) (w0 : 0 ≤ w.toInt) (w1 : w.toInt ≤ 3) (n0 : 0 ≤ n.toInt) (n1 : n.toInt ≤ 60) : ∃ (k : Nat) (m1 : q_M), q_run q_D k q_m209 0 (lv_args 0 [.ref 0, .int 0, .int w, .int n]) [] m = some (some (.int 0), m1) ∧ bi_M kc_I m1 ∧ q_same [(85, 1, 1), (85, 2, 2), (86, 0, 59)] m m1 ∧ q_i m1 85 1 = w.toInt :=
  x_run (P := fun m => q_i m 85 1 = w.toInt) (g := w.toInt) (c := xr_C01) rfl xr_C01_k (fun d hd => by rw [List.mem_singleton.mp hd]; exact kb_229 x_K1 _) rfl (fun _ _ => rfl) (fun x hx hl T hT zs m e => by
    have e1 := List.mem_singleton.mp hx
    subst e1
    have e2 := List.mem_singleton.mp hT
    subst e2
    obtain ⟨z, z1, z2⟩ := x_O' (c := 85) (j := 1) (e.2.2.2.1 (85, ([], 1), (false, ([(0, 1)], 0))) (by decide))
    obtain ⟨ys, y1, y2⟩ := e.2.2.2.2 (43, [([(0, 1)], 0)]) (by decide)
    obtain ⟨y, ys1, rfl, hy, hs⟩ := g_ca y1
    have e4 := g_na hs
    subst e4
    have y2 : y = w.toInt := y2
    exact z2.trans ((b_is_uniq z1 hy).trans y2)) (zs := [w.toInt, n.toInt]) ⟨rfl, x_B rfl w0 w1 (x_B rfl n0 n1 x_B0), x_C0, x_M0, x_Q ⟨[w.toInt], ⟨b_is_var rfl, trivial⟩, rfl⟩ x_Q0⟩ (b_lvs_ok 0 ⟨rfl, ⟨0, rfl, b_is_c 0⟩, ⟨w, rfl, b_is_var rfl⟩, ⟨n, rfl, b_is_var rfl⟩, trivial⟩) hM
def xr_M01 : b_Con := (366, [.inr (.inl 93), .inl (false, (-2147483648), 2147483647), .inl (false, (-2147483648), 2147483647), .inl (false, (-2147483648), 2147483647)], [x_o], [(114, 0, 0), (115, 0, 0), (116, 0, 59)], [])
set_option maxRecDepth 100000 in
theorem xr_M01_k : b_chkG r_hk q_D kc_I r_fp 3000 xr_M01 [218, 294] [] []
   [(52, [], [], [((3, [(0, 0, 3), (1, 0, 60), (2, 0, 60)], [], [(114, ([], 0), (false, ([(1, 1)], 0))), (115, ([], 0), (false, ([(0, 1)], 0)))], [(43, [([(0, 1)], 0)])]), [(0, .inr (.inl 93)), (1, .inl (false, ([], 0))), (2, .inl (false, ([(0, 1)], 0))), (3, .inl (false, ([(1, 1)], 0))), (4, .inl (false, ([(2, 1)], 0)))], ([(2, (-1))], 61))]), (78, [], [], [((3, [(0, 0, 3), (1, 0, 60), (2, 0, 60)], [], [(114, ([], 0), (false, ([(1, 1)], 0))), (115, ([], 0), (false, ([(0, 1)], 0)))], [(43, [([(0, 1)], 0)])]), [(0, .inr (.inl 93)), (1, .inl (false, ([], 0))), (2, .inl (false, ([(0, 1)], 0))), (3, .inl (false, ([(1, 1)], 0))), (4, .inl (false, ([(2, 1)], 0)))], ([], 0))])] 0 78
   ((2, [(0, 0, 3), (1, 0, 60)], [], [], [(43, [([(0, 1)], 0)])]), b_lvs 0 [.inr (.inl 93), .inl (false, ([], 0)), .inl (false, ([(0, 1)], 0)), .inl (false, ([(1, 1)], 0))], ([], 0)) = true := by decide +kernel
theorem xr_M01_p {m : q_M} (hM : bi_M kc_I m) (w n : Int32) (w0 : 0 ≤ w.toInt) (w1 : w.toInt ≤ 3) (n0 : 0 ≤ n.toInt) (n1 : n.toInt ≤ 60) : ∃ (k : Nat) (m1 : q_M), q_run q_D k q_m366 0 (lv_args 0 [.ref 93, .int 0, .int w, .int n]) [] m = some (some (.int 0), m1) ∧ bi_M kc_I m1 ∧ q_same [(114, 0, 0), (115, 0, 0), (116, 0, 59)] m m1 ∧ q_i m1 115 0 = w.toInt :=
  x_run (P := fun m => q_i m 115 0 = w.toInt) (g := w.toInt) (c := xr_M01) rfl xr_M01_k (fun d hd => by cases hd) rfl (fun _ _ => rfl) (fun x hx hl T hT zs m e => by
    rcases List.mem_cons.mp hx with e1 | e1
    · subst e1
      exact absurd hl (by decide)
    have e1 := List.mem_singleton.mp e1
    subst e1
    have e2 := List.mem_singleton.mp hT
    subst e2
    obtain ⟨z, z1, z2⟩ := x_O' (c := 115) (j := 0) (e.2.2.2.1 (115, ([], 0), (false, ([(0, 1)], 0))) (by decide))
    obtain ⟨ys, y1, y2⟩ := e.2.2.2.2 (43, [([(0, 1)], 0)]) (by decide)
    obtain ⟨y, ys1, rfl, hy, hs⟩ := g_ca y1
    have e4 := g_na hs
    subst e4
    have y2 : y = w.toInt := y2
    exact z2.trans ((b_is_uniq z1 hy).trans y2)) (zs := [w.toInt, n.toInt]) ⟨rfl, x_B rfl w0 w1 (x_B rfl n0 n1 x_B0), x_C0, x_M0, x_Q ⟨[w.toInt], ⟨b_is_var rfl, trivial⟩, rfl⟩ x_Q0⟩ (b_lvs_ok 0 ⟨rfl, ⟨0, rfl, b_is_c 0⟩, ⟨w, rfl, b_is_var rfl⟩, ⟨n, rfl, b_is_var rfl⟩, trivial⟩) hM
def xr_C12 : b_Con := (209, [.inr (.inl 0), .inl (false, (-2147483648), 2147483647), .inl (false, (-2147483648), 2147483647), .inl (false, (-2147483648), 2147483647)], [x_o], [(87, 1, 1), (87, 2, 2), (88, 0, 59)], [])
set_option maxRecDepth 100000 in
theorem xr_C12_k : b_chkG r_hk q_D kc_I r_fp 3000 xr_C12 [142, 210] [kc_231] []
   [(43, [], [], [((2, [(0, 0, 3), (1, 0, 60)], [], [(87, ([], 1), (false, ([(0, 1)], 0))), (87, ([], 2), (false, ([(1, 1)], 0)))], [(43, [([(1, 1)], 0)])]), [(0, .inr (.inl 0)), (1, .inl (false, ([], 1))), (2, .inl (false, ([(0, 1)], 0))), (3, .inl (false, ([(1, 1)], 0)))], ([], 0))])] 0 43
   ((2, [(0, 0, 3), (1, 0, 60)], [], [], [(43, [([(1, 1)], 0)])]), b_lvs 0 [.inr (.inl 0), .inl (false, ([], 1)), .inl (false, ([(0, 1)], 0)), .inl (false, ([(1, 1)], 0))], ([], 0)) = true := by decide +kernel
theorem xr_C12_p {m : q_M} (hM : bi_M kc_I m) (w n : Int32) (w0 : 0 ≤ w.toInt) (w1 : w.toInt ≤ 3) (n0 : 0 ≤ n.toInt) (n1 : n.toInt ≤ 60) : ∃ (k : Nat) (m1 : q_M), q_run q_D k q_m209 0 (lv_args 0 [.ref 0, .int 1, .int w, .int n]) [] m = some (some (.int 0), m1) ∧ bi_M kc_I m1 ∧ q_same [(87, 1, 1), (87, 2, 2), (88, 0, 59)] m m1 ∧ q_i m1 87 2 = n.toInt :=
  x_run (P := fun m => q_i m 87 2 = n.toInt) (g := n.toInt) (c := xr_C12) rfl xr_C12_k (fun d hd => by rw [List.mem_singleton.mp hd]; exact kb_231 x_K1 _) rfl (fun _ _ => rfl) (fun x hx hl T hT zs m e => by
    have e1 := List.mem_singleton.mp hx
    subst e1
    have e2 := List.mem_singleton.mp hT
    subst e2
    obtain ⟨z, z1, z2⟩ := x_O' (c := 87) (j := 2) (e.2.2.2.1 (87, ([], 2), (false, ([(1, 1)], 0))) (by decide))
    obtain ⟨ys, y1, y2⟩ := e.2.2.2.2 (43, [([(1, 1)], 0)]) (by decide)
    obtain ⟨y, ys1, rfl, hy, hs⟩ := g_ca y1
    have e4 := g_na hs
    subst e4
    have y2 : y = n.toInt := y2
    exact z2.trans ((b_is_uniq z1 hy).trans y2)) (zs := [w.toInt, n.toInt]) ⟨rfl, x_B rfl w0 w1 (x_B rfl n0 n1 x_B0), x_C0, x_M0, x_Q ⟨[n.toInt], ⟨b_is_var rfl, trivial⟩, rfl⟩ x_Q0⟩ (b_lvs_ok 0 ⟨rfl, ⟨1, rfl, b_is_c 1⟩, ⟨w, rfl, b_is_var rfl⟩, ⟨n, rfl, b_is_var rfl⟩, trivial⟩) hM
def xr_M12 : b_Con := (366, [.inr (.inl 93), .inl (false, (-2147483648), 2147483647), .inl (false, (-2147483648), 2147483647), .inl (false, (-2147483648), 2147483647)], [x_o], [(114, 1, 1), (115, 1, 1), (116, 60, 119)], [])
set_option maxRecDepth 100000 in
theorem xr_M12_k : b_chkG r_hk q_D kc_I r_fp 3000 xr_M12 [218, 294] [] []
   [(52, [], [], [((3, [(0, 0, 3), (1, 0, 60), (2, 0, 60)], [], [(114, ([], 1), (false, ([(1, 1)], 0))), (115, ([], 1), (false, ([(0, 1)], 0)))], [(43, [([(1, 1)], 0)])]), [(0, .inr (.inl 93)), (1, .inl (false, ([], 1))), (2, .inl (false, ([(0, 1)], 0))), (3, .inl (false, ([(1, 1)], 0))), (4, .inl (false, ([(2, 1)], 0)))], ([(2, (-1))], 61))]), (78, [], [], [((3, [(0, 0, 3), (1, 0, 60), (2, 0, 60)], [], [(114, ([], 1), (false, ([(1, 1)], 0))), (115, ([], 1), (false, ([(0, 1)], 0)))], [(43, [([(1, 1)], 0)])]), [(0, .inr (.inl 93)), (1, .inl (false, ([], 1))), (2, .inl (false, ([(0, 1)], 0))), (3, .inl (false, ([(1, 1)], 0))), (4, .inl (false, ([(2, 1)], 0)))], ([], 0))])] 0 78
   ((2, [(0, 0, 3), (1, 0, 60)], [], [], [(43, [([(1, 1)], 0)])]), b_lvs 0 [.inr (.inl 93), .inl (false, ([], 1)), .inl (false, ([(0, 1)], 0)), .inl (false, ([(1, 1)], 0))], ([], 0)) = true := by decide +kernel
theorem xr_M12_p {m : q_M} (hM : bi_M kc_I m) (w n : Int32) (w0 : 0 ≤ w.toInt) (w1 : w.toInt ≤ 3) (n0 : 0 ≤ n.toInt) (n1 : n.toInt ≤ 60) : ∃ (k : Nat) (m1 : q_M), q_run q_D k q_m366 0 (lv_args 0 [.ref 93, .int 1, .int w, .int n]) [] m = some (some (.int 0), m1) ∧ bi_M kc_I m1 ∧ q_same [(114, 1, 1), (115, 1, 1), (116, 60, 119)] m m1 ∧ q_i m1 114 1 = n.toInt :=
  x_run (P := fun m => q_i m 114 1 = n.toInt) (g := n.toInt) (c := xr_M12) rfl xr_M12_k (fun d hd => by cases hd) rfl (fun _ _ => rfl) (fun x hx hl T hT zs m e => by
    rcases List.mem_cons.mp hx with e1 | e1
    · subst e1
      exact absurd hl (by decide)
    have e1 := List.mem_singleton.mp e1
    subst e1
    have e2 := List.mem_singleton.mp hT
    subst e2
    obtain ⟨z, z1, z2⟩ := x_O' (c := 114) (j := 1) (e.2.2.2.1 (114, ([], 1), (false, ([(1, 1)], 0))) (by decide))
    obtain ⟨ys, y1, y2⟩ := e.2.2.2.2 (43, [([(1, 1)], 0)]) (by decide)
    obtain ⟨y, ys1, rfl, hy, hs⟩ := g_ca y1
    have e4 := g_na hs
    subst e4
    have y2 : y = n.toInt := y2
    exact z2.trans ((b_is_uniq z1 hy).trans y2)) (zs := [w.toInt, n.toInt]) ⟨rfl, x_B rfl w0 w1 (x_B rfl n0 n1 x_B0), x_C0, x_M0, x_Q ⟨[n.toInt], ⟨b_is_var rfl, trivial⟩, rfl⟩ x_Q0⟩ (b_lvs_ok 0 ⟨rfl, ⟨1, rfl, b_is_c 1⟩, ⟨w, rfl, b_is_var rfl⟩, ⟨n, rfl, b_is_var rfl⟩, trivial⟩) hM
def xr_C11 : b_Con := (209, [.inr (.inl 0), .inl (false, (-2147483648), 2147483647), .inl (false, (-2147483648), 2147483647), .inl (false, (-2147483648), 2147483647)], [x_o], [(87, 1, 1), (87, 2, 2), (88, 0, 59)], [])
set_option maxRecDepth 100000 in
theorem xr_C11_k : b_chkG r_hk q_D kc_I r_fp 3000 xr_C11 [142, 210] [kc_231] []
   [(43, [], [], [((2, [(0, 0, 3), (1, 0, 60)], [], [(87, ([], 1), (false, ([(0, 1)], 0))), (87, ([], 2), (false, ([(1, 1)], 0)))], [(43, [([(0, 1)], 0)])]), [(0, .inr (.inl 0)), (1, .inl (false, ([], 1))), (2, .inl (false, ([(0, 1)], 0))), (3, .inl (false, ([(1, 1)], 0)))], ([], 0))])] 0 43
   ((2, [(0, 0, 3), (1, 0, 60)], [], [], [(43, [([(0, 1)], 0)])]), b_lvs 0 [.inr (.inl 0), .inl (false, ([], 1)), .inl (false, ([(0, 1)], 0)), .inl (false, ([(1, 1)], 0))], ([], 0)) = true := by decide +kernel
theorem xr_C11_p {m : q_M} (hM : bi_M kc_I m) (w n : Int32) (w0 : 0 ≤ w.toInt) (w1 : w.toInt ≤ 3) (n0 : 0 ≤ n.toInt) (n1 : n.toInt ≤ 60) : ∃ (k : Nat) (m1 : q_M), q_run q_D k q_m209 0 (lv_args 0 [.ref 0, .int 1, .int w, .int n]) [] m = some (some (.int 0), m1) ∧ bi_M kc_I m1 ∧ q_same [(87, 1, 1), (87, 2, 2), (88, 0, 59)] m m1 ∧ q_i m1 87 1 = w.toInt :=
  x_run (P := fun m => q_i m 87 1 = w.toInt) (g := w.toInt) (c := xr_C11) rfl xr_C11_k (fun d hd => by rw [List.mem_singleton.mp hd]; exact kb_231 x_K1 _) rfl (fun _ _ => rfl) (fun x hx hl T hT zs m e => by
    have e1 := List.mem_singleton.mp hx
    subst e1
    have e2 := List.mem_singleton.mp hT
    subst e2
    obtain ⟨z, z1, z2⟩ := x_O' (c := 87) (j := 1) (e.2.2.2.1 (87, ([], 1), (false, ([(0, 1)], 0))) (by decide))
    obtain ⟨ys, y1, y2⟩ := e.2.2.2.2 (43, [([(0, 1)], 0)]) (by decide)
    obtain ⟨y, ys1, rfl, hy, hs⟩ := g_ca y1
    have e4 := g_na hs
    subst e4
    have y2 : y = w.toInt := y2
    exact z2.trans ((b_is_uniq z1 hy).trans y2)) (zs := [w.toInt, n.toInt]) ⟨rfl, x_B rfl w0 w1 (x_B rfl n0 n1 x_B0), x_C0, x_M0, x_Q ⟨[w.toInt], ⟨b_is_var rfl, trivial⟩, rfl⟩ x_Q0⟩ (b_lvs_ok 0 ⟨rfl, ⟨1, rfl, b_is_c 1⟩, ⟨w, rfl, b_is_var rfl⟩, ⟨n, rfl, b_is_var rfl⟩, trivial⟩) hM
def xr_M11 : b_Con := (366, [.inr (.inl 93), .inl (false, (-2147483648), 2147483647), .inl (false, (-2147483648), 2147483647), .inl (false, (-2147483648), 2147483647)], [x_o], [(114, 1, 1), (115, 1, 1), (116, 60, 119)], [])
set_option maxRecDepth 100000 in
theorem xr_M11_k : b_chkG r_hk q_D kc_I r_fp 3000 xr_M11 [218, 294] [] []
   [(52, [], [], [((3, [(0, 0, 3), (1, 0, 60), (2, 0, 60)], [], [(114, ([], 1), (false, ([(1, 1)], 0))), (115, ([], 1), (false, ([(0, 1)], 0)))], [(43, [([(0, 1)], 0)])]), [(0, .inr (.inl 93)), (1, .inl (false, ([], 1))), (2, .inl (false, ([(0, 1)], 0))), (3, .inl (false, ([(1, 1)], 0))), (4, .inl (false, ([(2, 1)], 0)))], ([(2, (-1))], 61))]), (78, [], [], [((3, [(0, 0, 3), (1, 0, 60), (2, 0, 60)], [], [(114, ([], 1), (false, ([(1, 1)], 0))), (115, ([], 1), (false, ([(0, 1)], 0)))], [(43, [([(0, 1)], 0)])]), [(0, .inr (.inl 93)), (1, .inl (false, ([], 1))), (2, .inl (false, ([(0, 1)], 0))), (3, .inl (false, ([(1, 1)], 0))), (4, .inl (false, ([(2, 1)], 0)))], ([], 0))])] 0 78
   ((2, [(0, 0, 3), (1, 0, 60)], [], [], [(43, [([(0, 1)], 0)])]), b_lvs 0 [.inr (.inl 93), .inl (false, ([], 1)), .inl (false, ([(0, 1)], 0)), .inl (false, ([(1, 1)], 0))], ([], 0)) = true := by decide +kernel
theorem xr_M11_p {m : q_M} (hM : bi_M kc_I m) (w n : Int32) (w0 : 0 ≤ w.toInt) (w1 : w.toInt ≤ 3) (n0 : 0 ≤ n.toInt) (n1 : n.toInt ≤ 60) : ∃ (k : Nat) (m1 : q_M), q_run q_D k q_m366 0 (lv_args 0 [.ref 93, .int 1, .int w, .int n]) [] m = some (some (.int 0), m1) ∧ bi_M kc_I m1 ∧ q_same [(114, 1, 1), (115, 1, 1), (116, 60, 119)] m m1 ∧ q_i m1 115 1 = w.toInt :=
  x_run (P := fun m => q_i m 115 1 = w.toInt) (g := w.toInt) (c := xr_M11) rfl xr_M11_k (fun d hd => by cases hd) rfl (fun _ _ => rfl) (fun x hx hl T hT zs m e => by
    rcases List.mem_cons.mp hx with e1 | e1
    · subst e1
      exact absurd hl (by decide)
    have e1 := List.mem_singleton.mp e1
    subst e1
    have e2 := List.mem_singleton.mp hT
    subst e2
    obtain ⟨z, z1, z2⟩ := x_O' (c := 115) (j := 1) (e.2.2.2.1 (115, ([], 1), (false, ([(0, 1)], 0))) (by decide))
    obtain ⟨ys, y1, y2⟩ := e.2.2.2.2 (43, [([(0, 1)], 0)]) (by decide)
    obtain ⟨y, ys1, rfl, hy, hs⟩ := g_ca y1
    have e4 := g_na hs
    subst e4
    have y2 : y = w.toInt := y2
    exact z2.trans ((b_is_uniq z1 hy).trans y2)) (zs := [w.toInt, n.toInt]) ⟨rfl, x_B rfl w0 w1 (x_B rfl n0 n1 x_B0), x_C0, x_M0, x_Q ⟨[w.toInt], ⟨b_is_var rfl, trivial⟩, rfl⟩ x_Q0⟩ (b_lvs_ok 0 ⟨rfl, ⟨1, rfl, b_is_c 1⟩, ⟨w, rfl, b_is_var rfl⟩, ⟨n, rfl, b_is_var rfl⟩, trivial⟩) hM
def xr_C22 : b_Con := (209, [.inr (.inl 0), .inl (false, (-2147483648), 2147483647), .inl (false, (-2147483648), 2147483647), .inl (false, (-2147483648), 2147483647)], [x_o], [(89, 1, 1), (89, 2, 2), (90, 0, 59)], [])
set_option maxRecDepth 100000 in
theorem xr_C22_k : b_chkG r_hk q_D kc_I r_fp 3000 xr_C22 [142, 210] [kc_233] []
   [(43, [], [], [((2, [(0, 0, 3), (1, 0, 60)], [], [(89, ([], 1), (false, ([(0, 1)], 0))), (89, ([], 2), (false, ([(1, 1)], 0)))], [(43, [([(1, 1)], 0)])]), [(0, .inr (.inl 0)), (1, .inl (false, ([], 2))), (2, .inl (false, ([(0, 1)], 0))), (3, .inl (false, ([(1, 1)], 0)))], ([], 0))])] 0 43
   ((2, [(0, 0, 3), (1, 0, 60)], [], [], [(43, [([(1, 1)], 0)])]), b_lvs 0 [.inr (.inl 0), .inl (false, ([], 2)), .inl (false, ([(0, 1)], 0)), .inl (false, ([(1, 1)], 0))], ([], 0)) = true := by decide +kernel
theorem xr_C22_p {m : q_M} (hM : bi_M kc_I m) (w n : Int32) (w0 : 0 ≤ w.toInt) (w1 : w.toInt ≤ 3) (n0 : 0 ≤ n.toInt) (n1 : n.toInt ≤ 60) : ∃ (k : Nat) (m1 : q_M), q_run q_D k q_m209 0 (lv_args 0 [.ref 0, .int 2, .int w, .int n]) [] m = some (some (.int 0), m1) ∧ bi_M kc_I m1 ∧ q_same [(89, 1, 1), (89, 2, 2), (90, 0, 59)] m m1 ∧ q_i m1 89 2 = n.toInt :=
  x_run (P := fun m => q_i m 89 2 = n.toInt) (g := n.toInt) (c := xr_C22) rfl xr_C22_k (fun d hd => by rw [List.mem_singleton.mp hd]; exact kb_233 x_K1 _) rfl (fun _ _ => rfl) (fun x hx hl T hT zs m e => by
    have e1 := List.mem_singleton.mp hx
    subst e1
    have e2 := List.mem_singleton.mp hT
    subst e2
    obtain ⟨z, z1, z2⟩ := x_O' (c := 89) (j := 2) (e.2.2.2.1 (89, ([], 2), (false, ([(1, 1)], 0))) (by decide))
    obtain ⟨ys, y1, y2⟩ := e.2.2.2.2 (43, [([(1, 1)], 0)]) (by decide)
    obtain ⟨y, ys1, rfl, hy, hs⟩ := g_ca y1
    have e4 := g_na hs
    subst e4
    have y2 : y = n.toInt := y2
    exact z2.trans ((b_is_uniq z1 hy).trans y2)) (zs := [w.toInt, n.toInt]) ⟨rfl, x_B rfl w0 w1 (x_B rfl n0 n1 x_B0), x_C0, x_M0, x_Q ⟨[n.toInt], ⟨b_is_var rfl, trivial⟩, rfl⟩ x_Q0⟩ (b_lvs_ok 0 ⟨rfl, ⟨2, rfl, b_is_c 2⟩, ⟨w, rfl, b_is_var rfl⟩, ⟨n, rfl, b_is_var rfl⟩, trivial⟩) hM
def xr_M22 : b_Con := (366, [.inr (.inl 93), .inl (false, (-2147483648), 2147483647), .inl (false, (-2147483648), 2147483647), .inl (false, (-2147483648), 2147483647)], [x_o], [(114, 2, 2), (115, 2, 2), (116, 120, 179)], [])
set_option maxRecDepth 100000 in
theorem xr_M22_k : b_chkG r_hk q_D kc_I r_fp 3000 xr_M22 [218, 294] [] []
   [(52, [], [], [((3, [(0, 0, 3), (1, 0, 60), (2, 0, 60)], [], [(114, ([], 2), (false, ([(1, 1)], 0))), (115, ([], 2), (false, ([(0, 1)], 0)))], [(43, [([(1, 1)], 0)])]), [(0, .inr (.inl 93)), (1, .inl (false, ([], 2))), (2, .inl (false, ([(0, 1)], 0))), (3, .inl (false, ([(1, 1)], 0))), (4, .inl (false, ([(2, 1)], 0)))], ([(2, (-1))], 61))]), (78, [], [], [((3, [(0, 0, 3), (1, 0, 60), (2, 0, 60)], [], [(114, ([], 2), (false, ([(1, 1)], 0))), (115, ([], 2), (false, ([(0, 1)], 0)))], [(43, [([(1, 1)], 0)])]), [(0, .inr (.inl 93)), (1, .inl (false, ([], 2))), (2, .inl (false, ([(0, 1)], 0))), (3, .inl (false, ([(1, 1)], 0))), (4, .inl (false, ([(2, 1)], 0)))], ([], 0))])] 0 78
   ((2, [(0, 0, 3), (1, 0, 60)], [], [], [(43, [([(1, 1)], 0)])]), b_lvs 0 [.inr (.inl 93), .inl (false, ([], 2)), .inl (false, ([(0, 1)], 0)), .inl (false, ([(1, 1)], 0))], ([], 0)) = true := by decide +kernel
theorem xr_M22_p {m : q_M} (hM : bi_M kc_I m) (w n : Int32) (w0 : 0 ≤ w.toInt) (w1 : w.toInt ≤ 3) (n0 : 0 ≤ n.toInt) (n1 : n.toInt ≤ 60) : ∃ (k : Nat) (m1 : q_M), q_run q_D k q_m366 0 (lv_args 0 [.ref 93, .int 2, .int w, .int n]) [] m = some (some (.int 0), m1) ∧ bi_M kc_I m1 ∧ q_same [(114, 2, 2), (115, 2, 2), (116, 120, 179)] m m1 ∧ q_i m1 114 2 = n.toInt :=
  x_run (P := fun m => q_i m 114 2 = n.toInt) (g := n.toInt) (c := xr_M22) rfl xr_M22_k (fun d hd => by cases hd) rfl (fun _ _ => rfl) (fun x hx hl T hT zs m e => by
    rcases List.mem_cons.mp hx with e1 | e1
    · subst e1
      exact absurd hl (by decide)
    have e1 := List.mem_singleton.mp e1
    subst e1
    have e2 := List.mem_singleton.mp hT
    subst e2
    obtain ⟨z, z1, z2⟩ := x_O' (c := 114) (j := 2) (e.2.2.2.1 (114, ([], 2), (false, ([(1, 1)], 0))) (by decide))
    obtain ⟨ys, y1, y2⟩ := e.2.2.2.2 (43, [([(1, 1)], 0)]) (by decide)
    obtain ⟨y, ys1, rfl, hy, hs⟩ := g_ca y1
    have e4 := g_na hs
    subst e4
    have y2 : y = n.toInt := y2
    exact z2.trans ((b_is_uniq z1 hy).trans y2)) (zs := [w.toInt, n.toInt]) ⟨rfl, x_B rfl w0 w1 (x_B rfl n0 n1 x_B0), x_C0, x_M0, x_Q ⟨[n.toInt], ⟨b_is_var rfl, trivial⟩, rfl⟩ x_Q0⟩ (b_lvs_ok 0 ⟨rfl, ⟨2, rfl, b_is_c 2⟩, ⟨w, rfl, b_is_var rfl⟩, ⟨n, rfl, b_is_var rfl⟩, trivial⟩) hM
def xr_C21 : b_Con := (209, [.inr (.inl 0), .inl (false, (-2147483648), 2147483647), .inl (false, (-2147483648), 2147483647), .inl (false, (-2147483648), 2147483647)], [x_o], [(89, 1, 1), (89, 2, 2), (90, 0, 59)], [])
set_option maxRecDepth 100000 in
theorem xr_C21_k : b_chkG r_hk q_D kc_I r_fp 3000 xr_C21 [142, 210] [kc_233] []
   [(43, [], [], [((2, [(0, 0, 3), (1, 0, 60)], [], [(89, ([], 1), (false, ([(0, 1)], 0))), (89, ([], 2), (false, ([(1, 1)], 0)))], [(43, [([(0, 1)], 0)])]), [(0, .inr (.inl 0)), (1, .inl (false, ([], 2))), (2, .inl (false, ([(0, 1)], 0))), (3, .inl (false, ([(1, 1)], 0)))], ([], 0))])] 0 43
   ((2, [(0, 0, 3), (1, 0, 60)], [], [], [(43, [([(0, 1)], 0)])]), b_lvs 0 [.inr (.inl 0), .inl (false, ([], 2)), .inl (false, ([(0, 1)], 0)), .inl (false, ([(1, 1)], 0))], ([], 0)) = true := by decide +kernel
theorem xr_C21_p {m : q_M} (hM : bi_M kc_I m) (w n : Int32) (w0 : 0 ≤ w.toInt) (w1 : w.toInt ≤ 3) (n0 : 0 ≤ n.toInt) (n1 : n.toInt ≤ 60) : ∃ (k : Nat) (m1 : q_M), q_run q_D k q_m209 0 (lv_args 0 [.ref 0, .int 2, .int w, .int n]) [] m = some (some (.int 0), m1) ∧ bi_M kc_I m1 ∧ q_same [(89, 1, 1), (89, 2, 2), (90, 0, 59)] m m1 ∧ q_i m1 89 1 = w.toInt :=
  x_run (P := fun m => q_i m 89 1 = w.toInt) (g := w.toInt) (c := xr_C21) rfl xr_C21_k (fun d hd => by rw [List.mem_singleton.mp hd]; exact kb_233 x_K1 _) rfl (fun _ _ => rfl) (fun x hx hl T hT zs m e => by
    have e1 := List.mem_singleton.mp hx
    subst e1
    have e2 := List.mem_singleton.mp hT
    subst e2
    obtain ⟨z, z1, z2⟩ := x_O' (c := 89) (j := 1) (e.2.2.2.1 (89, ([], 1), (false, ([(0, 1)], 0))) (by decide))
    obtain ⟨ys, y1, y2⟩ := e.2.2.2.2 (43, [([(0, 1)], 0)]) (by decide)
    obtain ⟨y, ys1, rfl, hy, hs⟩ := g_ca y1
    have e4 := g_na hs
    subst e4
    have y2 : y = w.toInt := y2
    exact z2.trans ((b_is_uniq z1 hy).trans y2)) (zs := [w.toInt, n.toInt]) ⟨rfl, x_B rfl w0 w1 (x_B rfl n0 n1 x_B0), x_C0, x_M0, x_Q ⟨[w.toInt], ⟨b_is_var rfl, trivial⟩, rfl⟩ x_Q0⟩ (b_lvs_ok 0 ⟨rfl, ⟨2, rfl, b_is_c 2⟩, ⟨w, rfl, b_is_var rfl⟩, ⟨n, rfl, b_is_var rfl⟩, trivial⟩) hM
def xr_M21 : b_Con := (366, [.inr (.inl 93), .inl (false, (-2147483648), 2147483647), .inl (false, (-2147483648), 2147483647), .inl (false, (-2147483648), 2147483647)], [x_o], [(114, 2, 2), (115, 2, 2), (116, 120, 179)], [])
set_option maxRecDepth 100000 in
theorem xr_M21_k : b_chkG r_hk q_D kc_I r_fp 3000 xr_M21 [218, 294] [] []
   [(52, [], [], [((3, [(0, 0, 3), (1, 0, 60), (2, 0, 60)], [], [(114, ([], 2), (false, ([(1, 1)], 0))), (115, ([], 2), (false, ([(0, 1)], 0)))], [(43, [([(0, 1)], 0)])]), [(0, .inr (.inl 93)), (1, .inl (false, ([], 2))), (2, .inl (false, ([(0, 1)], 0))), (3, .inl (false, ([(1, 1)], 0))), (4, .inl (false, ([(2, 1)], 0)))], ([(2, (-1))], 61))]), (78, [], [], [((3, [(0, 0, 3), (1, 0, 60), (2, 0, 60)], [], [(114, ([], 2), (false, ([(1, 1)], 0))), (115, ([], 2), (false, ([(0, 1)], 0)))], [(43, [([(0, 1)], 0)])]), [(0, .inr (.inl 93)), (1, .inl (false, ([], 2))), (2, .inl (false, ([(0, 1)], 0))), (3, .inl (false, ([(1, 1)], 0))), (4, .inl (false, ([(2, 1)], 0)))], ([], 0))])] 0 78
   ((2, [(0, 0, 3), (1, 0, 60)], [], [], [(43, [([(0, 1)], 0)])]), b_lvs 0 [.inr (.inl 93), .inl (false, ([], 2)), .inl (false, ([(0, 1)], 0)), .inl (false, ([(1, 1)], 0))], ([], 0)) = true := by decide +kernel
theorem xr_M21_p {m : q_M} (hM : bi_M kc_I m) (w n : Int32) (w0 : 0 ≤ w.toInt) (w1 : w.toInt ≤ 3) (n0 : 0 ≤ n.toInt) (n1 : n.toInt ≤ 60) : ∃ (k : Nat) (m1 : q_M), q_run q_D k q_m366 0 (lv_args 0 [.ref 93, .int 2, .int w, .int n]) [] m = some (some (.int 0), m1) ∧ bi_M kc_I m1 ∧ q_same [(114, 2, 2), (115, 2, 2), (116, 120, 179)] m m1 ∧ q_i m1 115 2 = w.toInt :=
  x_run (P := fun m => q_i m 115 2 = w.toInt) (g := w.toInt) (c := xr_M21) rfl xr_M21_k (fun d hd => by cases hd) rfl (fun _ _ => rfl) (fun x hx hl T hT zs m e => by
    rcases List.mem_cons.mp hx with e1 | e1
    · subst e1
      exact absurd hl (by decide)
    have e1 := List.mem_singleton.mp e1
    subst e1
    have e2 := List.mem_singleton.mp hT
    subst e2
    obtain ⟨z, z1, z2⟩ := x_O' (c := 115) (j := 2) (e.2.2.2.1 (115, ([], 2), (false, ([(0, 1)], 0))) (by decide))
    obtain ⟨ys, y1, y2⟩ := e.2.2.2.2 (43, [([(0, 1)], 0)]) (by decide)
    obtain ⟨y, ys1, rfl, hy, hs⟩ := g_ca y1
    have e4 := g_na hs
    subst e4
    have y2 : y = w.toInt := y2
    exact z2.trans ((b_is_uniq z1 hy).trans y2)) (zs := [w.toInt, n.toInt]) ⟨rfl, x_B rfl w0 w1 (x_B rfl n0 n1 x_B0), x_C0, x_M0, x_Q ⟨[w.toInt], ⟨b_is_var rfl, trivial⟩, rfl⟩ x_Q0⟩ (b_lvs_ok 0 ⟨rfl, ⟨2, rfl, b_is_c 2⟩, ⟨w, rfl, b_is_var rfl⟩, ⟨n, rfl, b_is_var rfl⟩, trivial⟩) hM
def xr_C32 : b_Con := (209, [.inr (.inl 0), .inl (false, (-2147483648), 2147483647), .inl (false, (-2147483648), 2147483647), .inl (false, (-2147483648), 2147483647)], [x_o], [(91, 1, 1), (91, 2, 2), (92, 0, 59)], [])
set_option maxRecDepth 100000 in
theorem xr_C32_k : b_chkG r_hk q_D kc_I r_fp 3000 xr_C32 [142, 210] [kc_235] []
   [(43, [], [], [((2, [(0, 0, 3), (1, 0, 60)], [], [(91, ([], 1), (false, ([(0, 1)], 0))), (91, ([], 2), (false, ([(1, 1)], 0)))], [(43, [([(1, 1)], 0)])]), [(0, .inr (.inl 0)), (1, .inl (false, ([], 3))), (2, .inl (false, ([(0, 1)], 0))), (3, .inl (false, ([(1, 1)], 0)))], ([], 0))])] 0 43
   ((2, [(0, 0, 3), (1, 0, 60)], [], [], [(43, [([(1, 1)], 0)])]), b_lvs 0 [.inr (.inl 0), .inl (false, ([], 3)), .inl (false, ([(0, 1)], 0)), .inl (false, ([(1, 1)], 0))], ([], 0)) = true := by decide +kernel
theorem xr_C32_p {m : q_M} (hM : bi_M kc_I m) (w n : Int32) (w0 : 0 ≤ w.toInt) (w1 : w.toInt ≤ 3) (n0 : 0 ≤ n.toInt) (n1 : n.toInt ≤ 60) : ∃ (k : Nat) (m1 : q_M), q_run q_D k q_m209 0 (lv_args 0 [.ref 0, .int 3, .int w, .int n]) [] m = some (some (.int 0), m1) ∧ bi_M kc_I m1 ∧ q_same [(91, 1, 1), (91, 2, 2), (92, 0, 59)] m m1 ∧ q_i m1 91 2 = n.toInt :=
  x_run (P := fun m => q_i m 91 2 = n.toInt) (g := n.toInt) (c := xr_C32) rfl xr_C32_k (fun d hd => by rw [List.mem_singleton.mp hd]; exact kb_235 x_K1 _) rfl (fun _ _ => rfl) (fun x hx hl T hT zs m e => by
    have e1 := List.mem_singleton.mp hx
    subst e1
    have e2 := List.mem_singleton.mp hT
    subst e2
    obtain ⟨z, z1, z2⟩ := x_O' (c := 91) (j := 2) (e.2.2.2.1 (91, ([], 2), (false, ([(1, 1)], 0))) (by decide))
    obtain ⟨ys, y1, y2⟩ := e.2.2.2.2 (43, [([(1, 1)], 0)]) (by decide)
    obtain ⟨y, ys1, rfl, hy, hs⟩ := g_ca y1
    have e4 := g_na hs
    subst e4
    have y2 : y = n.toInt := y2
    exact z2.trans ((b_is_uniq z1 hy).trans y2)) (zs := [w.toInt, n.toInt]) ⟨rfl, x_B rfl w0 w1 (x_B rfl n0 n1 x_B0), x_C0, x_M0, x_Q ⟨[n.toInt], ⟨b_is_var rfl, trivial⟩, rfl⟩ x_Q0⟩ (b_lvs_ok 0 ⟨rfl, ⟨3, rfl, b_is_c 3⟩, ⟨w, rfl, b_is_var rfl⟩, ⟨n, rfl, b_is_var rfl⟩, trivial⟩) hM
def xr_M32 : b_Con := (366, [.inr (.inl 93), .inl (false, (-2147483648), 2147483647), .inl (false, (-2147483648), 2147483647), .inl (false, (-2147483648), 2147483647)], [x_o], [(114, 3, 3), (115, 3, 3), (116, 180, 239)], [])
set_option maxRecDepth 100000 in
theorem xr_M32_k : b_chkG r_hk q_D kc_I r_fp 3000 xr_M32 [218, 294] [] []
   [(52, [], [], [((3, [(0, 0, 3), (1, 0, 60), (2, 0, 60)], [], [(114, ([], 3), (false, ([(1, 1)], 0))), (115, ([], 3), (false, ([(0, 1)], 0)))], [(43, [([(1, 1)], 0)])]), [(0, .inr (.inl 93)), (1, .inl (false, ([], 3))), (2, .inl (false, ([(0, 1)], 0))), (3, .inl (false, ([(1, 1)], 0))), (4, .inl (false, ([(2, 1)], 0)))], ([(2, (-1))], 61))]), (78, [], [], [((3, [(0, 0, 3), (1, 0, 60), (2, 0, 60)], [], [(114, ([], 3), (false, ([(1, 1)], 0))), (115, ([], 3), (false, ([(0, 1)], 0)))], [(43, [([(1, 1)], 0)])]), [(0, .inr (.inl 93)), (1, .inl (false, ([], 3))), (2, .inl (false, ([(0, 1)], 0))), (3, .inl (false, ([(1, 1)], 0))), (4, .inl (false, ([(2, 1)], 0)))], ([], 0))])] 0 78
   ((2, [(0, 0, 3), (1, 0, 60)], [], [], [(43, [([(1, 1)], 0)])]), b_lvs 0 [.inr (.inl 93), .inl (false, ([], 3)), .inl (false, ([(0, 1)], 0)), .inl (false, ([(1, 1)], 0))], ([], 0)) = true := by decide +kernel
theorem xr_M32_p {m : q_M} (hM : bi_M kc_I m) (w n : Int32) (w0 : 0 ≤ w.toInt) (w1 : w.toInt ≤ 3) (n0 : 0 ≤ n.toInt) (n1 : n.toInt ≤ 60) : ∃ (k : Nat) (m1 : q_M), q_run q_D k q_m366 0 (lv_args 0 [.ref 93, .int 3, .int w, .int n]) [] m = some (some (.int 0), m1) ∧ bi_M kc_I m1 ∧ q_same [(114, 3, 3), (115, 3, 3), (116, 180, 239)] m m1 ∧ q_i m1 114 3 = n.toInt :=
  x_run (P := fun m => q_i m 114 3 = n.toInt) (g := n.toInt) (c := xr_M32) rfl xr_M32_k (fun d hd => by cases hd) rfl (fun _ _ => rfl) (fun x hx hl T hT zs m e => by
    rcases List.mem_cons.mp hx with e1 | e1
    · subst e1
      exact absurd hl (by decide)
    have e1 := List.mem_singleton.mp e1
    subst e1
    have e2 := List.mem_singleton.mp hT
    subst e2
    obtain ⟨z, z1, z2⟩ := x_O' (c := 114) (j := 3) (e.2.2.2.1 (114, ([], 3), (false, ([(1, 1)], 0))) (by decide))
    obtain ⟨ys, y1, y2⟩ := e.2.2.2.2 (43, [([(1, 1)], 0)]) (by decide)
    obtain ⟨y, ys1, rfl, hy, hs⟩ := g_ca y1
    have e4 := g_na hs
    subst e4
    have y2 : y = n.toInt := y2
    exact z2.trans ((b_is_uniq z1 hy).trans y2)) (zs := [w.toInt, n.toInt]) ⟨rfl, x_B rfl w0 w1 (x_B rfl n0 n1 x_B0), x_C0, x_M0, x_Q ⟨[n.toInt], ⟨b_is_var rfl, trivial⟩, rfl⟩ x_Q0⟩ (b_lvs_ok 0 ⟨rfl, ⟨3, rfl, b_is_c 3⟩, ⟨w, rfl, b_is_var rfl⟩, ⟨n, rfl, b_is_var rfl⟩, trivial⟩) hM
def xr_C31 : b_Con := (209, [.inr (.inl 0), .inl (false, (-2147483648), 2147483647), .inl (false, (-2147483648), 2147483647), .inl (false, (-2147483648), 2147483647)], [x_o], [(91, 1, 1), (91, 2, 2), (92, 0, 59)], [])
set_option maxRecDepth 100000 in
theorem xr_C31_k : b_chkG r_hk q_D kc_I r_fp 3000 xr_C31 [142, 210] [kc_235] []
   [(43, [], [], [((2, [(0, 0, 3), (1, 0, 60)], [], [(91, ([], 1), (false, ([(0, 1)], 0))), (91, ([], 2), (false, ([(1, 1)], 0)))], [(43, [([(0, 1)], 0)])]), [(0, .inr (.inl 0)), (1, .inl (false, ([], 3))), (2, .inl (false, ([(0, 1)], 0))), (3, .inl (false, ([(1, 1)], 0)))], ([], 0))])] 0 43
   ((2, [(0, 0, 3), (1, 0, 60)], [], [], [(43, [([(0, 1)], 0)])]), b_lvs 0 [.inr (.inl 0), .inl (false, ([], 3)), .inl (false, ([(0, 1)], 0)), .inl (false, ([(1, 1)], 0))], ([], 0)) = true := by decide +kernel
theorem xr_C31_p {m : q_M} (hM : bi_M kc_I m) (w n : Int32) (w0 : 0 ≤ w.toInt) (w1 : w.toInt ≤ 3) (n0 : 0 ≤ n.toInt) (n1 : n.toInt ≤ 60) : ∃ (k : Nat) (m1 : q_M), q_run q_D k q_m209 0 (lv_args 0 [.ref 0, .int 3, .int w, .int n]) [] m = some (some (.int 0), m1) ∧ bi_M kc_I m1 ∧ q_same [(91, 1, 1), (91, 2, 2), (92, 0, 59)] m m1 ∧ q_i m1 91 1 = w.toInt :=
  x_run (P := fun m => q_i m 91 1 = w.toInt) (g := w.toInt) (c := xr_C31) rfl xr_C31_k (fun d hd => by rw [List.mem_singleton.mp hd]; exact kb_235 x_K1 _) rfl (fun _ _ => rfl) (fun x hx hl T hT zs m e => by
    have e1 := List.mem_singleton.mp hx
    subst e1
    have e2 := List.mem_singleton.mp hT
    subst e2
    obtain ⟨z, z1, z2⟩ := x_O' (c := 91) (j := 1) (e.2.2.2.1 (91, ([], 1), (false, ([(0, 1)], 0))) (by decide))
    obtain ⟨ys, y1, y2⟩ := e.2.2.2.2 (43, [([(0, 1)], 0)]) (by decide)
    obtain ⟨y, ys1, rfl, hy, hs⟩ := g_ca y1
    have e4 := g_na hs
    subst e4
    have y2 : y = w.toInt := y2
    exact z2.trans ((b_is_uniq z1 hy).trans y2)) (zs := [w.toInt, n.toInt]) ⟨rfl, x_B rfl w0 w1 (x_B rfl n0 n1 x_B0), x_C0, x_M0, x_Q ⟨[w.toInt], ⟨b_is_var rfl, trivial⟩, rfl⟩ x_Q0⟩ (b_lvs_ok 0 ⟨rfl, ⟨3, rfl, b_is_c 3⟩, ⟨w, rfl, b_is_var rfl⟩, ⟨n, rfl, b_is_var rfl⟩, trivial⟩) hM
def xr_M31 : b_Con := (366, [.inr (.inl 93), .inl (false, (-2147483648), 2147483647), .inl (false, (-2147483648), 2147483647), .inl (false, (-2147483648), 2147483647)], [x_o], [(114, 3, 3), (115, 3, 3), (116, 180, 239)], [])
set_option maxRecDepth 100000 in
theorem xr_M31_k : b_chkG r_hk q_D kc_I r_fp 3000 xr_M31 [218, 294] [] []
   [(52, [], [], [((3, [(0, 0, 3), (1, 0, 60), (2, 0, 60)], [], [(114, ([], 3), (false, ([(1, 1)], 0))), (115, ([], 3), (false, ([(0, 1)], 0)))], [(43, [([(0, 1)], 0)])]), [(0, .inr (.inl 93)), (1, .inl (false, ([], 3))), (2, .inl (false, ([(0, 1)], 0))), (3, .inl (false, ([(1, 1)], 0))), (4, .inl (false, ([(2, 1)], 0)))], ([(2, (-1))], 61))]), (78, [], [], [((3, [(0, 0, 3), (1, 0, 60), (2, 0, 60)], [], [(114, ([], 3), (false, ([(1, 1)], 0))), (115, ([], 3), (false, ([(0, 1)], 0)))], [(43, [([(0, 1)], 0)])]), [(0, .inr (.inl 93)), (1, .inl (false, ([], 3))), (2, .inl (false, ([(0, 1)], 0))), (3, .inl (false, ([(1, 1)], 0))), (4, .inl (false, ([(2, 1)], 0)))], ([], 0))])] 0 78
   ((2, [(0, 0, 3), (1, 0, 60)], [], [], [(43, [([(0, 1)], 0)])]), b_lvs 0 [.inr (.inl 93), .inl (false, ([], 3)), .inl (false, ([(0, 1)], 0)), .inl (false, ([(1, 1)], 0))], ([], 0)) = true := by decide +kernel
theorem xr_M31_p {m : q_M} (hM : bi_M kc_I m) (w n : Int32) (w0 : 0 ≤ w.toInt) (w1 : w.toInt ≤ 3) (n0 : 0 ≤ n.toInt) (n1 : n.toInt ≤ 60) : ∃ (k : Nat) (m1 : q_M), q_run q_D k q_m366 0 (lv_args 0 [.ref 93, .int 3, .int w, .int n]) [] m = some (some (.int 0), m1) ∧ bi_M kc_I m1 ∧ q_same [(114, 3, 3), (115, 3, 3), (116, 180, 239)] m m1 ∧ q_i m1 115 3 = w.toInt :=
  x_run (P := fun m => q_i m 115 3 = w.toInt) (g := w.toInt) (c := xr_M31) rfl xr_M31_k (fun d hd => by cases hd) rfl (fun _ _ => rfl) (fun x hx hl T hT zs m e => by
    rcases List.mem_cons.mp hx with e1 | e1
    · subst e1
      exact absurd hl (by decide)
    have e1 := List.mem_singleton.mp e1
    subst e1
    have e2 := List.mem_singleton.mp hT
    subst e2
    obtain ⟨z, z1, z2⟩ := x_O' (c := 115) (j := 3) (e.2.2.2.1 (115, ([], 3), (false, ([(0, 1)], 0))) (by decide))
    obtain ⟨ys, y1, y2⟩ := e.2.2.2.2 (43, [([(0, 1)], 0)]) (by decide)
    obtain ⟨y, ys1, rfl, hy, hs⟩ := g_ca y1
    have e4 := g_na hs
    subst e4
    have y2 : y = w.toInt := y2
    exact z2.trans ((b_is_uniq z1 hy).trans y2)) (zs := [w.toInt, n.toInt]) ⟨rfl, x_B rfl w0 w1 (x_B rfl n0 n1 x_B0), x_C0, x_M0, x_Q ⟨[w.toInt], ⟨b_is_var rfl, trivial⟩, rfl⟩ x_Q0⟩ (b_lvs_ok 0 ⟨rfl, ⟨3, rfl, b_is_c 3⟩, ⟨w, rfl, b_is_var rfl⟩, ⟨n, rfl, b_is_var rfl⟩, trivial⟩) hM

def xb_C0 : b_Con := (208, [.inr (.inl 0), .inl (false, (-2147483648), 2147483647)], [(some (false, 0, 0), [])], [(4, 0, 0), (4, 1, 1), (4, 2, 2), (4, 3, 3), (4, 4, 4), (4, 5, 5), (4, 6, 6), (5, 0, 19), (6, 0, 19), (7, 0, 19), (8, 0, 19), (9, 0, 19), (10, 0, 19), (11, 0, 5), (12, 0, 5), (13, 0, 5), (14, 0, 5), (15, 0, 119)], [])
set_option maxRecDepth 100000 in
theorem xb_C0_k : b_chkG r_hk q_D kc_I r_fp 3000 xb_C0 [] [kc_225] []
   [] 26 9999
   ((0, [], [], [], []), b_lvs 0 [.inr (.inl 0), .inl (false, ([], 0))], ([], 0)) = true := by decide +kernel
theorem xb_C0_p {m : q_M} (hM : bi_M kc_I m) : ∃ (n : Nat) (m1 : q_M), q_run q_D n q_m208 26 (lv_args 0 [.ref 0, .int 0]) [] m = some (some (.int (Int32.ofInt 0)), m1) :=
  x_ansP (c := xb_C0) rfl xb_C0_k (by decide) (ka_cons (ka_225 0) ka_nil) rfl (zs := []) ⟨rfl, x_B0, x_C0, x_M0, x_Q0⟩ (b_lvs_ok 0 ⟨rfl, ⟨0, rfl, b_is_c 0⟩, trivial⟩) hM
def xb_M00 : b_Con := (219, [.inr (.inl 93), .inl (false, (-2147483648), 2147483647)], [(some (false, (-6), (-6)), [])], [(94, 0, 276)], [])
set_option maxRecDepth 100000 in
theorem xb_M00_k : b_chkG r_hk q_D kc_I r_fp 3000 xb_M00 [218] [] []
   [] 0 9999
   ((0, [], [], [(96, ([], 0), (false, ([], 0)))], [(0, []), (2, []), (3, []), (4, [])]), b_lvs 0 [.inr (.inl 93), .inl (false, ([], 0))], ([], 0)) = true := by decide +kernel
theorem xb_M00_p {m : q_M} (hM : bi_M kc_I m) (hq : ∀ id ∈ l_ids, r_F kK 0 id [] m) (hv : q_i m 96 0 = 0) : ∃ (c : Nat) (m1 : q_M), q_run q_D c q_m219 0 (lv_args 0 [.ref 93, .int 0]) [] m = some (some (.int (Int32.ofInt (-6))), m1) :=
  x_ans (c := xb_M00) rfl xb_M00_k (by decide) ka_nil rfl (zs := []) ⟨rfl, x_B0, x_C0, x_M (x_O (x_pl_96_0 hM).1 (by rw [hv]; exact b_is_c 0)) x_M0, x_Q ⟨[], trivial, hq 0 (by decide)⟩ (x_Q ⟨[], trivial, hq 2 (by decide)⟩ (x_Q ⟨[], trivial, hq 3 (by decide)⟩ (x_Q ⟨[], trivial, hq 4 (by decide)⟩ x_Q0)))⟩ (b_lvs_ok 0 ⟨rfl, ⟨0, rfl, b_is_c 0⟩, trivial⟩) hM
def xb_M01 : b_Con := (219, [.inr (.inl 93), .inl (false, (-2147483648), 2147483647)], [(some (false, 0, 0), [])], [(94, 0, 276)], [])
set_option maxRecDepth 100000 in
theorem xb_M01_k : b_chkG r_hk q_D kc_I r_fp 3000 xb_M01 [218] [] []
   [(29, [], [], [((1, [(0, 0, 319)], [], [], [(14, [([(0, 1)], 0)]), (2, []), (3, []), (4, [])]), [(0, .inr (.inl 93)), (1, .inl (false, ([], 0))), (2, .inl (false, ([(0, 1)], 0)))], ([(0, (-1))], 319))])] 0 9999
   ((0, [], [], [(96, ([], 0), (false, ([], 1)))], [(0, []), (2, []), (3, []), (4, [])]), b_lvs 0 [.inr (.inl 93), .inl (false, ([], 0))], ([], 0)) = true := by decide +kernel
theorem xb_M01_p {m : q_M} (hM : bi_M kc_I m) (hq : ∀ id ∈ l_ids, r_F kK 0 id [] m) (hv : q_i m 96 0 = 1) : ∃ (c : Nat) (m1 : q_M), q_run q_D c q_m219 0 (lv_args 0 [.ref 93, .int 0]) [] m = some (some (.int (Int32.ofInt 0)), m1) :=
  x_ans (c := xb_M01) rfl xb_M01_k (by decide) ka_nil rfl (zs := []) ⟨rfl, x_B0, x_C0, x_M (x_O (x_pl_96_0 hM).1 (by rw [hv]; exact b_is_c 1)) x_M0, x_Q ⟨[], trivial, hq 0 (by decide)⟩ (x_Q ⟨[], trivial, hq 2 (by decide)⟩ (x_Q ⟨[], trivial, hq 3 (by decide)⟩ (x_Q ⟨[], trivial, hq 4 (by decide)⟩ x_Q0)))⟩ (b_lvs_ok 0 ⟨rfl, ⟨0, rfl, b_is_c 0⟩, trivial⟩) hM
def xb_C1 : b_Con := (208, [.inr (.inl 0), .inl (false, (-2147483648), 2147483647)], [(some (false, 0, 0), [])], [(4, 0, 0), (4, 1, 1), (4, 2, 2), (4, 3, 3), (4, 4, 4), (4, 5, 5), (4, 6, 6), (5, 0, 19), (6, 0, 19), (7, 0, 19), (8, 0, 19), (9, 0, 19), (10, 0, 19), (11, 0, 5), (12, 0, 5), (13, 0, 5), (14, 0, 5), (15, 0, 119)], [])
set_option maxRecDepth 100000 in
theorem xb_C1_k : b_chkG r_hk q_D kc_I r_fp 3000 xb_C1 [] [kc_226] []
   [] 26 9999
   ((0, [], [], [], []), b_lvs 0 [.inr (.inl 0), .inl (false, ([], 1))], ([], 0)) = true := by decide +kernel
theorem xb_C1_p {m : q_M} (hM : bi_M kc_I m) : ∃ (n : Nat) (m1 : q_M), q_run q_D n q_m208 26 (lv_args 0 [.ref 0, .int 1]) [] m = some (some (.int (Int32.ofInt 0)), m1) :=
  x_ansP (c := xb_C1) rfl xb_C1_k (by decide) (ka_cons (ka_226 0) ka_nil) rfl (zs := []) ⟨rfl, x_B0, x_C0, x_M0, x_Q0⟩ (b_lvs_ok 0 ⟨rfl, ⟨1, rfl, b_is_c 1⟩, trivial⟩) hM
def xb_M10 : b_Con := (219, [.inr (.inl 93), .inl (false, (-2147483648), 2147483647)], [(some (false, (-6), (-6)), [])], [(94, 0, 276)], [])
set_option maxRecDepth 100000 in
theorem xb_M10_k : b_chkG r_hk q_D kc_I r_fp 3000 xb_M10 [218] [] []
   [] 0 9999
   ((0, [], [], [(96, ([], 1), (false, ([], 0)))], [(0, []), (2, []), (3, []), (4, [])]), b_lvs 0 [.inr (.inl 93), .inl (false, ([], 1))], ([], 0)) = true := by decide +kernel
theorem xb_M10_p {m : q_M} (hM : bi_M kc_I m) (hq : ∀ id ∈ l_ids, r_F kK 0 id [] m) (hv : q_i m 96 1 = 0) : ∃ (c : Nat) (m1 : q_M), q_run q_D c q_m219 0 (lv_args 0 [.ref 93, .int 1]) [] m = some (some (.int (Int32.ofInt (-6))), m1) :=
  x_ans (c := xb_M10) rfl xb_M10_k (by decide) ka_nil rfl (zs := []) ⟨rfl, x_B0, x_C0, x_M (x_O (x_pl_96_1 hM).1 (by rw [hv]; exact b_is_c 0)) x_M0, x_Q ⟨[], trivial, hq 0 (by decide)⟩ (x_Q ⟨[], trivial, hq 2 (by decide)⟩ (x_Q ⟨[], trivial, hq 3 (by decide)⟩ (x_Q ⟨[], trivial, hq 4 (by decide)⟩ x_Q0)))⟩ (b_lvs_ok 0 ⟨rfl, ⟨1, rfl, b_is_c 1⟩, trivial⟩) hM
def xb_M11 : b_Con := (219, [.inr (.inl 93), .inl (false, (-2147483648), 2147483647)], [(some (false, 0, 0), [])], [(94, 0, 276)], [])
set_option maxRecDepth 100000 in
theorem xb_M11_k : b_chkG r_hk q_D kc_I r_fp 3000 xb_M11 [218] [] []
   [(29, [], [], [((1, [(0, 0, 319)], [], [], [(15, [([(0, 1)], 0)]), (2, []), (3, []), (4, [])]), [(0, .inr (.inl 93)), (1, .inl (false, ([], 1))), (2, .inl (false, ([(0, 1)], 0)))], ([(0, (-1))], 319))])] 0 9999
   ((0, [], [], [(96, ([], 1), (false, ([], 1)))], [(0, []), (2, []), (3, []), (4, [])]), b_lvs 0 [.inr (.inl 93), .inl (false, ([], 1))], ([], 0)) = true := by decide +kernel
theorem xb_M11_p {m : q_M} (hM : bi_M kc_I m) (hq : ∀ id ∈ l_ids, r_F kK 0 id [] m) (hv : q_i m 96 1 = 1) : ∃ (c : Nat) (m1 : q_M), q_run q_D c q_m219 0 (lv_args 0 [.ref 93, .int 1]) [] m = some (some (.int (Int32.ofInt 0)), m1) :=
  x_ans (c := xb_M11) rfl xb_M11_k (by decide) ka_nil rfl (zs := []) ⟨rfl, x_B0, x_C0, x_M (x_O (x_pl_96_1 hM).1 (by rw [hv]; exact b_is_c 1)) x_M0, x_Q ⟨[], trivial, hq 0 (by decide)⟩ (x_Q ⟨[], trivial, hq 2 (by decide)⟩ (x_Q ⟨[], trivial, hq 3 (by decide)⟩ (x_Q ⟨[], trivial, hq 4 (by decide)⟩ x_Q0)))⟩ (b_lvs_ok 0 ⟨rfl, ⟨1, rfl, b_is_c 1⟩, trivial⟩) hM
def xb_C2 : b_Con := (208, [.inr (.inl 0), .inl (false, (-2147483648), 2147483647)], [(some (false, 0, 0), [])], [(4, 0, 0), (4, 1, 1), (4, 2, 2), (4, 3, 3), (4, 4, 4), (4, 5, 5), (4, 6, 6), (5, 0, 19), (6, 0, 19), (7, 0, 19), (8, 0, 19), (9, 0, 19), (10, 0, 19), (11, 0, 5), (12, 0, 5), (13, 0, 5), (14, 0, 5), (15, 0, 119)], [])
set_option maxRecDepth 100000 in
theorem xb_C2_k : b_chkG r_hk q_D kc_I r_fp 3000 xb_C2 [] [kc_227] []
   [] 26 9999
   ((0, [], [], [], []), b_lvs 0 [.inr (.inl 0), .inl (false, ([], 2))], ([], 0)) = true := by decide +kernel
theorem xb_C2_p {m : q_M} (hM : bi_M kc_I m) : ∃ (n : Nat) (m1 : q_M), q_run q_D n q_m208 26 (lv_args 0 [.ref 0, .int 2]) [] m = some (some (.int (Int32.ofInt 0)), m1) :=
  x_ansP (c := xb_C2) rfl xb_C2_k (by decide) (ka_cons (ka_227 0) ka_nil) rfl (zs := []) ⟨rfl, x_B0, x_C0, x_M0, x_Q0⟩ (b_lvs_ok 0 ⟨rfl, ⟨2, rfl, b_is_c 2⟩, trivial⟩) hM
def xb_M20 : b_Con := (219, [.inr (.inl 93), .inl (false, (-2147483648), 2147483647)], [(some (false, (-6), (-6)), [])], [(94, 0, 276)], [])
set_option maxRecDepth 100000 in
theorem xb_M20_k : b_chkG r_hk q_D kc_I r_fp 3000 xb_M20 [218] [] []
   [] 0 9999
   ((0, [], [], [(96, ([], 2), (false, ([], 0)))], [(0, []), (2, []), (3, []), (4, [])]), b_lvs 0 [.inr (.inl 93), .inl (false, ([], 2))], ([], 0)) = true := by decide +kernel
theorem xb_M20_p {m : q_M} (hM : bi_M kc_I m) (hq : ∀ id ∈ l_ids, r_F kK 0 id [] m) (hv : q_i m 96 2 = 0) : ∃ (c : Nat) (m1 : q_M), q_run q_D c q_m219 0 (lv_args 0 [.ref 93, .int 2]) [] m = some (some (.int (Int32.ofInt (-6))), m1) :=
  x_ans (c := xb_M20) rfl xb_M20_k (by decide) ka_nil rfl (zs := []) ⟨rfl, x_B0, x_C0, x_M (x_O (x_pl_96_2 hM).1 (by rw [hv]; exact b_is_c 0)) x_M0, x_Q ⟨[], trivial, hq 0 (by decide)⟩ (x_Q ⟨[], trivial, hq 2 (by decide)⟩ (x_Q ⟨[], trivial, hq 3 (by decide)⟩ (x_Q ⟨[], trivial, hq 4 (by decide)⟩ x_Q0)))⟩ (b_lvs_ok 0 ⟨rfl, ⟨2, rfl, b_is_c 2⟩, trivial⟩) hM
def xb_M21 : b_Con := (219, [.inr (.inl 93), .inl (false, (-2147483648), 2147483647)], [(some (false, 0, 0), [])], [(94, 0, 276)], [])
set_option maxRecDepth 100000 in
theorem xb_M21_k : b_chkG r_hk q_D kc_I r_fp 3000 xb_M21 [218] [] []
   [(29, [], [], [((1, [(0, 0, 319)], [], [], [(16, [([(0, 1)], 0)]), (2, []), (3, []), (4, [])]), [(0, .inr (.inl 93)), (1, .inl (false, ([], 2))), (2, .inl (false, ([(0, 1)], 0)))], ([(0, (-1))], 319))])] 0 9999
   ((0, [], [], [(96, ([], 2), (false, ([], 1)))], [(0, []), (2, []), (3, []), (4, [])]), b_lvs 0 [.inr (.inl 93), .inl (false, ([], 2))], ([], 0)) = true := by decide +kernel
theorem xb_M21_p {m : q_M} (hM : bi_M kc_I m) (hq : ∀ id ∈ l_ids, r_F kK 0 id [] m) (hv : q_i m 96 2 = 1) : ∃ (c : Nat) (m1 : q_M), q_run q_D c q_m219 0 (lv_args 0 [.ref 93, .int 2]) [] m = some (some (.int (Int32.ofInt 0)), m1) :=
  x_ans (c := xb_M21) rfl xb_M21_k (by decide) ka_nil rfl (zs := []) ⟨rfl, x_B0, x_C0, x_M (x_O (x_pl_96_2 hM).1 (by rw [hv]; exact b_is_c 1)) x_M0, x_Q ⟨[], trivial, hq 0 (by decide)⟩ (x_Q ⟨[], trivial, hq 2 (by decide)⟩ (x_Q ⟨[], trivial, hq 3 (by decide)⟩ (x_Q ⟨[], trivial, hq 4 (by decide)⟩ x_Q0)))⟩ (b_lvs_ok 0 ⟨rfl, ⟨2, rfl, b_is_c 2⟩, trivial⟩) hM

def x_pv (m0 : q_M) (s i t k n : Int32) : Int32 := if s.toInt < 0 ∨ 3 < s.toInt ∨ t.toInt < 0 ∨ 3 < t.toInt then Int32.ofInt (-2) else if q_i m0 114 s.toInt.toNat = -1 ∨ q_i m0 114 t.toInt.toNat = -1 then Int32.ofInt (-6) else if q_i m0 115 s.toInt.toNat ≠ q_i m0 115 t.toInt.toNat then Int32.ofInt (-8)
  else if i.toInt < 0 ∨ k.toInt < 0 ∨ n.toInt < 0 ∨ q_i m0 114 s.toInt.toNat < i.toInt + n.toInt ∨ q_i m0 114 t.toInt.toNat < k.toInt + n.toInt then Int32.ofInt (-7) else Int32.ofInt 0
def kw_C0 : b_Con := (215, [.inr (.inl 0), .inl (false, (-2147483648), (-1)), .inl (false, (-2147483648), 2147483647), .inl (false, (-2147483648), 2147483647), .inl (false, (-2147483648), 2147483647), .inl (false, (-2147483648), 2147483647)], [(some (false, (-2), (-2)), [])], [], [])
set_option maxRecDepth 100000 in
theorem kw_C0_k : b_chk r_hk q_D kc_I r_fp 3000 kw_C0 [142, 143, 213] [] []
   [] = true := by decide +kernel
theorem kw_C0_a : bc_ok q_D kc_I (r_F kK 0) kw_C0 := b_chk_ok (r_hk_ok kc_Iok kK1) kc_srt (r_bgF kc_Iok) kw_C0_k ka_nil
def kw_C1 : b_Con := (215, [.inr (.inl 0), .inl (false, 4, 2147483647), .inl (false, (-2147483648), 2147483647), .inl (false, (-2147483648), 2147483647), .inl (false, (-2147483648), 2147483647), .inl (false, (-2147483648), 2147483647)], [(some (false, (-2), (-2)), [])], [], [])
set_option maxRecDepth 100000 in
theorem kw_C1_k : b_chk r_hk q_D kc_I r_fp 3000 kw_C1 [142, 143, 213] [] []
   [] = true := by decide +kernel
theorem kw_C1_a : bc_ok q_D kc_I (r_F kK 0) kw_C1 := b_chk_ok (r_hk_ok kc_Iok kK1) kc_srt (r_bgF kc_Iok) kw_C1_k ka_nil
def kw_C2 : b_Con := (215, [.inr (.inl 0), .inl (false, 0, 3), .inl (false, (-2147483648), 2147483647), .inl (false, (-2147483648), (-1)), .inl (false, (-2147483648), 2147483647), .inl (false, (-2147483648), 2147483647)], [(some (false, (-2), (-2)), [])], [], [])
set_option maxRecDepth 100000 in
theorem kw_C2_k : b_chk r_hk q_D kc_I r_fp 3000 kw_C2 [142, 143, 213] [] []
   [] = true := by decide +kernel
theorem kw_C2_a : bc_ok q_D kc_I (r_F kK 0) kw_C2 := b_chk_ok (r_hk_ok kc_Iok kK1) kc_srt (r_bgF kc_Iok) kw_C2_k ka_nil
def kw_C3 : b_Con := (215, [.inr (.inl 0), .inl (false, 0, 3), .inl (false, (-2147483648), 2147483647), .inl (false, 4, 2147483647), .inl (false, (-2147483648), 2147483647), .inl (false, (-2147483648), 2147483647)], [(some (false, (-2), (-2)), [])], [], [])
set_option maxRecDepth 100000 in
theorem kw_C3_k : b_chk r_hk q_D kc_I r_fp 3000 kw_C3 [142, 143, 213] [] []
   [] = true := by decide +kernel
theorem kw_C3_a : bc_ok q_D kc_I (r_F kK 0) kw_C3 := b_chk_ok (r_hk_ok kc_Iok kK1) kc_srt (r_bgF kc_Iok) kw_C3_k ka_nil
theorem xp_C00 {m : q_M} (hM : bi_M kc_I m) (i k n : Int32) : ∃ (c : Nat) (m1 : q_M), q_run q_D c q_m215 0 (lv_args 0 [.ref 0, .int 0, .int i, .int 0, .int k, .int n]) [] m = some (some (.int (if q_i m 85 2 = -1 ∨ q_i m 85 2 = -1 then Int32.ofInt (-6) else if q_i m 85 1 ≠ q_i m 85 1 then Int32.ofInt (-8) else if i.toInt < 0 ∨ k.toInt < 0 ∨ n.toInt < 0 ∨ q_i m 85 2 < i.toInt + n.toInt ∨ q_i m 85 2 < k.toInt + n.toInt then Int32.ofInt (-7) else Int32.ofInt 0)), m1) := by
  have hbs := x_pl_85_2 hM
  have hbt := x_pl_85_2 hM
  by_cases d0 : q_i m 85 2 = -1
  · rw [if_pos (Or.inl d0)]
    exact xp_C00a_p hM i k n d0
  rw [if_neg (by omega), if_neg (by simp)]
  by_cases fe : i.toInt < 0
  · rw [if_pos (by omega)]
    exact xp_C00e_p hM i k n (by omega) fe
  by_cases ff : k.toInt < 0
  · rw [if_pos (by omega)]
    exact xp_C00f_p hM i k n (by omega) ff
  by_cases fg : n.toInt < 0
  · rw [if_pos (by omega)]
    exact xp_C00g_p hM i k n (by omega) fg
  by_cases fh : q_i m 85 2 < i.toInt + n.toInt
  · rw [if_pos (by omega)]
    exact xp_C00h_p hM i k n (by omega) (by omega) (by omega) (by omega) fh
  by_cases fj : q_i m 85 2 < k.toInt + n.toInt
  · rw [if_pos (by omega)]
    exact xp_C00j_p hM i k n (by omega) (by omega) (by omega) (by omega) (by omega) fj
  · rw [if_neg (by omega)]
    exact xp_C00k_p hM i k n (by omega) (by omega) (by omega) (by omega) (by omega) (by omega)
theorem xp_C01 {m : q_M} (hM : bi_M kc_I m) (i k n : Int32) : ∃ (c : Nat) (m1 : q_M), q_run q_D c q_m215 0 (lv_args 0 [.ref 0, .int 0, .int i, .int 1, .int k, .int n]) [] m = some (some (.int (if q_i m 85 2 = -1 ∨ q_i m 87 2 = -1 then Int32.ofInt (-6) else if q_i m 85 1 ≠ q_i m 87 1 then Int32.ofInt (-8) else if i.toInt < 0 ∨ k.toInt < 0 ∨ n.toInt < 0 ∨ q_i m 85 2 < i.toInt + n.toInt ∨ q_i m 87 2 < k.toInt + n.toInt then Int32.ofInt (-7) else Int32.ofInt 0)), m1) := by
  have hbs := x_pl_85_2 hM
  have hbt := x_pl_87_2 hM
  by_cases d0 : q_i m 85 2 = -1
  · rw [if_pos (Or.inl d0)]
    exact xp_C01a_p hM i k n d0
  by_cases d1 : q_i m 87 2 = -1
  · rw [if_pos (Or.inr d1)]
    exact xp_C01b_p hM i k n (by omega) d1
  rw [if_neg (by omega)]
  by_cases d2 : q_i m 85 1 = q_i m 87 1
  rotate_left
  · rw [if_pos d2]
    by_cases d3 : q_i m 85 1 < q_i m 87 1
    · exact xp_C01c_p hM i k n (by omega) (by omega) d3
    · exact xp_C01d_p hM i k n (by omega) (by omega) (by omega)
  rw [if_neg (by simpa using d2)]
  by_cases fe : i.toInt < 0
  · rw [if_pos (by omega)]
    exact xp_C01e_p hM i k n (by omega) (by omega) d2 fe
  by_cases ff : k.toInt < 0
  · rw [if_pos (by omega)]
    exact xp_C01f_p hM i k n (by omega) (by omega) d2 ff
  by_cases fg : n.toInt < 0
  · rw [if_pos (by omega)]
    exact xp_C01g_p hM i k n (by omega) (by omega) d2 fg
  by_cases fh : q_i m 85 2 < i.toInt + n.toInt
  · rw [if_pos (by omega)]
    exact xp_C01h_p hM i k n (by omega) (by omega) d2 (by omega) (by omega) (by omega) fh
  by_cases fj : q_i m 87 2 < k.toInt + n.toInt
  · rw [if_pos (by omega)]
    exact xp_C01j_p hM i k n (by omega) (by omega) d2 (by omega) (by omega) (by omega) (by omega) fj
  · rw [if_neg (by omega)]
    exact xp_C01k_p hM i k n (by omega) (by omega) d2 (by omega) (by omega) (by omega) (by omega) (by omega)
theorem xp_C02 {m : q_M} (hM : bi_M kc_I m) (i k n : Int32) : ∃ (c : Nat) (m1 : q_M), q_run q_D c q_m215 0 (lv_args 0 [.ref 0, .int 0, .int i, .int 2, .int k, .int n]) [] m = some (some (.int (if q_i m 85 2 = -1 ∨ q_i m 89 2 = -1 then Int32.ofInt (-6) else if q_i m 85 1 ≠ q_i m 89 1 then Int32.ofInt (-8) else if i.toInt < 0 ∨ k.toInt < 0 ∨ n.toInt < 0 ∨ q_i m 85 2 < i.toInt + n.toInt ∨ q_i m 89 2 < k.toInt + n.toInt then Int32.ofInt (-7) else Int32.ofInt 0)), m1) := by
  have hbs := x_pl_85_2 hM
  have hbt := x_pl_89_2 hM
  by_cases d0 : q_i m 85 2 = -1
  · rw [if_pos (Or.inl d0)]
    exact xp_C02a_p hM i k n d0
  by_cases d1 : q_i m 89 2 = -1
  · rw [if_pos (Or.inr d1)]
    exact xp_C02b_p hM i k n (by omega) d1
  rw [if_neg (by omega)]
  by_cases d2 : q_i m 85 1 = q_i m 89 1
  rotate_left
  · rw [if_pos d2]
    by_cases d3 : q_i m 85 1 < q_i m 89 1
    · exact xp_C02c_p hM i k n (by omega) (by omega) d3
    · exact xp_C02d_p hM i k n (by omega) (by omega) (by omega)
  rw [if_neg (by simpa using d2)]
  by_cases fe : i.toInt < 0
  · rw [if_pos (by omega)]
    exact xp_C02e_p hM i k n (by omega) (by omega) d2 fe
  by_cases ff : k.toInt < 0
  · rw [if_pos (by omega)]
    exact xp_C02f_p hM i k n (by omega) (by omega) d2 ff
  by_cases fg : n.toInt < 0
  · rw [if_pos (by omega)]
    exact xp_C02g_p hM i k n (by omega) (by omega) d2 fg
  by_cases fh : q_i m 85 2 < i.toInt + n.toInt
  · rw [if_pos (by omega)]
    exact xp_C02h_p hM i k n (by omega) (by omega) d2 (by omega) (by omega) (by omega) fh
  by_cases fj : q_i m 89 2 < k.toInt + n.toInt
  · rw [if_pos (by omega)]
    exact xp_C02j_p hM i k n (by omega) (by omega) d2 (by omega) (by omega) (by omega) (by omega) fj
  · rw [if_neg (by omega)]
    exact xp_C02k_p hM i k n (by omega) (by omega) d2 (by omega) (by omega) (by omega) (by omega) (by omega)
theorem xp_C03 {m : q_M} (hM : bi_M kc_I m) (i k n : Int32) : ∃ (c : Nat) (m1 : q_M), q_run q_D c q_m215 0 (lv_args 0 [.ref 0, .int 0, .int i, .int 3, .int k, .int n]) [] m = some (some (.int (if q_i m 85 2 = -1 ∨ q_i m 91 2 = -1 then Int32.ofInt (-6) else if q_i m 85 1 ≠ q_i m 91 1 then Int32.ofInt (-8) else if i.toInt < 0 ∨ k.toInt < 0 ∨ n.toInt < 0 ∨ q_i m 85 2 < i.toInt + n.toInt ∨ q_i m 91 2 < k.toInt + n.toInt then Int32.ofInt (-7) else Int32.ofInt 0)), m1) := by
  have hbs := x_pl_85_2 hM
  have hbt := x_pl_91_2 hM
  by_cases d0 : q_i m 85 2 = -1
  · rw [if_pos (Or.inl d0)]
    exact xp_C03a_p hM i k n d0
  by_cases d1 : q_i m 91 2 = -1
  · rw [if_pos (Or.inr d1)]
    exact xp_C03b_p hM i k n (by omega) d1
  rw [if_neg (by omega)]
  by_cases d2 : q_i m 85 1 = q_i m 91 1
  rotate_left
  · rw [if_pos d2]
    by_cases d3 : q_i m 85 1 < q_i m 91 1
    · exact xp_C03c_p hM i k n (by omega) (by omega) d3
    · exact xp_C03d_p hM i k n (by omega) (by omega) (by omega)
  rw [if_neg (by simpa using d2)]
  by_cases fe : i.toInt < 0
  · rw [if_pos (by omega)]
    exact xp_C03e_p hM i k n (by omega) (by omega) d2 fe
  by_cases ff : k.toInt < 0
  · rw [if_pos (by omega)]
    exact xp_C03f_p hM i k n (by omega) (by omega) d2 ff
  by_cases fg : n.toInt < 0
  · rw [if_pos (by omega)]
    exact xp_C03g_p hM i k n (by omega) (by omega) d2 fg
  by_cases fh : q_i m 85 2 < i.toInt + n.toInt
  · rw [if_pos (by omega)]
    exact xp_C03h_p hM i k n (by omega) (by omega) d2 (by omega) (by omega) (by omega) fh
  by_cases fj : q_i m 91 2 < k.toInt + n.toInt
  · rw [if_pos (by omega)]
    exact xp_C03j_p hM i k n (by omega) (by omega) d2 (by omega) (by omega) (by omega) (by omega) fj
  · rw [if_neg (by omega)]
    exact xp_C03k_p hM i k n (by omega) (by omega) d2 (by omega) (by omega) (by omega) (by omega) (by omega)
theorem xp_C10 {m : q_M} (hM : bi_M kc_I m) (i k n : Int32) : ∃ (c : Nat) (m1 : q_M), q_run q_D c q_m215 0 (lv_args 0 [.ref 0, .int 1, .int i, .int 0, .int k, .int n]) [] m = some (some (.int (if q_i m 87 2 = -1 ∨ q_i m 85 2 = -1 then Int32.ofInt (-6) else if q_i m 87 1 ≠ q_i m 85 1 then Int32.ofInt (-8) else if i.toInt < 0 ∨ k.toInt < 0 ∨ n.toInt < 0 ∨ q_i m 87 2 < i.toInt + n.toInt ∨ q_i m 85 2 < k.toInt + n.toInt then Int32.ofInt (-7) else Int32.ofInt 0)), m1) := by
  have hbs := x_pl_87_2 hM
  have hbt := x_pl_85_2 hM
  by_cases d0 : q_i m 87 2 = -1
  · rw [if_pos (Or.inl d0)]
    exact xp_C10a_p hM i k n d0
  by_cases d1 : q_i m 85 2 = -1
  · rw [if_pos (Or.inr d1)]
    exact xp_C10b_p hM i k n (by omega) d1
  rw [if_neg (by omega)]
  by_cases d2 : q_i m 87 1 = q_i m 85 1
  rotate_left
  · rw [if_pos d2]
    by_cases d3 : q_i m 87 1 < q_i m 85 1
    · exact xp_C10c_p hM i k n (by omega) (by omega) d3
    · exact xp_C10d_p hM i k n (by omega) (by omega) (by omega)
  rw [if_neg (by simpa using d2)]
  by_cases fe : i.toInt < 0
  · rw [if_pos (by omega)]
    exact xp_C10e_p hM i k n (by omega) (by omega) d2 fe
  by_cases ff : k.toInt < 0
  · rw [if_pos (by omega)]
    exact xp_C10f_p hM i k n (by omega) (by omega) d2 ff
  by_cases fg : n.toInt < 0
  · rw [if_pos (by omega)]
    exact xp_C10g_p hM i k n (by omega) (by omega) d2 fg
  by_cases fh : q_i m 87 2 < i.toInt + n.toInt
  · rw [if_pos (by omega)]
    exact xp_C10h_p hM i k n (by omega) (by omega) d2 (by omega) (by omega) (by omega) fh
  by_cases fj : q_i m 85 2 < k.toInt + n.toInt
  · rw [if_pos (by omega)]
    exact xp_C10j_p hM i k n (by omega) (by omega) d2 (by omega) (by omega) (by omega) (by omega) fj
  · rw [if_neg (by omega)]
    exact xp_C10k_p hM i k n (by omega) (by omega) d2 (by omega) (by omega) (by omega) (by omega) (by omega)
theorem xp_C11 {m : q_M} (hM : bi_M kc_I m) (i k n : Int32) : ∃ (c : Nat) (m1 : q_M), q_run q_D c q_m215 0 (lv_args 0 [.ref 0, .int 1, .int i, .int 1, .int k, .int n]) [] m = some (some (.int (if q_i m 87 2 = -1 ∨ q_i m 87 2 = -1 then Int32.ofInt (-6) else if q_i m 87 1 ≠ q_i m 87 1 then Int32.ofInt (-8) else if i.toInt < 0 ∨ k.toInt < 0 ∨ n.toInt < 0 ∨ q_i m 87 2 < i.toInt + n.toInt ∨ q_i m 87 2 < k.toInt + n.toInt then Int32.ofInt (-7) else Int32.ofInt 0)), m1) := by
  have hbs := x_pl_87_2 hM
  have hbt := x_pl_87_2 hM
  by_cases d0 : q_i m 87 2 = -1
  · rw [if_pos (Or.inl d0)]
    exact xp_C11a_p hM i k n d0
  rw [if_neg (by omega), if_neg (by simp)]
  by_cases fe : i.toInt < 0
  · rw [if_pos (by omega)]
    exact xp_C11e_p hM i k n (by omega) fe
  by_cases ff : k.toInt < 0
  · rw [if_pos (by omega)]
    exact xp_C11f_p hM i k n (by omega) ff
  by_cases fg : n.toInt < 0
  · rw [if_pos (by omega)]
    exact xp_C11g_p hM i k n (by omega) fg
  by_cases fh : q_i m 87 2 < i.toInt + n.toInt
  · rw [if_pos (by omega)]
    exact xp_C11h_p hM i k n (by omega) (by omega) (by omega) (by omega) fh
  by_cases fj : q_i m 87 2 < k.toInt + n.toInt
  · rw [if_pos (by omega)]
    exact xp_C11j_p hM i k n (by omega) (by omega) (by omega) (by omega) (by omega) fj
  · rw [if_neg (by omega)]
    exact xp_C11k_p hM i k n (by omega) (by omega) (by omega) (by omega) (by omega) (by omega)
theorem xp_C12 {m : q_M} (hM : bi_M kc_I m) (i k n : Int32) : ∃ (c : Nat) (m1 : q_M), q_run q_D c q_m215 0 (lv_args 0 [.ref 0, .int 1, .int i, .int 2, .int k, .int n]) [] m = some (some (.int (if q_i m 87 2 = -1 ∨ q_i m 89 2 = -1 then Int32.ofInt (-6) else if q_i m 87 1 ≠ q_i m 89 1 then Int32.ofInt (-8) else if i.toInt < 0 ∨ k.toInt < 0 ∨ n.toInt < 0 ∨ q_i m 87 2 < i.toInt + n.toInt ∨ q_i m 89 2 < k.toInt + n.toInt then Int32.ofInt (-7) else Int32.ofInt 0)), m1) := by
  have hbs := x_pl_87_2 hM
  have hbt := x_pl_89_2 hM
  by_cases d0 : q_i m 87 2 = -1
  · rw [if_pos (Or.inl d0)]
    exact xp_C12a_p hM i k n d0
  by_cases d1 : q_i m 89 2 = -1
  · rw [if_pos (Or.inr d1)]
    exact xp_C12b_p hM i k n (by omega) d1
  rw [if_neg (by omega)]
  by_cases d2 : q_i m 87 1 = q_i m 89 1
  rotate_left
  · rw [if_pos d2]
    by_cases d3 : q_i m 87 1 < q_i m 89 1
    · exact xp_C12c_p hM i k n (by omega) (by omega) d3
    · exact xp_C12d_p hM i k n (by omega) (by omega) (by omega)
  rw [if_neg (by simpa using d2)]
  by_cases fe : i.toInt < 0
  · rw [if_pos (by omega)]
    exact xp_C12e_p hM i k n (by omega) (by omega) d2 fe
  by_cases ff : k.toInt < 0
  · rw [if_pos (by omega)]
    exact xp_C12f_p hM i k n (by omega) (by omega) d2 ff
  by_cases fg : n.toInt < 0
  · rw [if_pos (by omega)]
    exact xp_C12g_p hM i k n (by omega) (by omega) d2 fg
  by_cases fh : q_i m 87 2 < i.toInt + n.toInt
  · rw [if_pos (by omega)]
    exact xp_C12h_p hM i k n (by omega) (by omega) d2 (by omega) (by omega) (by omega) fh
  by_cases fj : q_i m 89 2 < k.toInt + n.toInt
  · rw [if_pos (by omega)]
    exact xp_C12j_p hM i k n (by omega) (by omega) d2 (by omega) (by omega) (by omega) (by omega) fj
  · rw [if_neg (by omega)]
    exact xp_C12k_p hM i k n (by omega) (by omega) d2 (by omega) (by omega) (by omega) (by omega) (by omega)
theorem xp_C13 {m : q_M} (hM : bi_M kc_I m) (i k n : Int32) : ∃ (c : Nat) (m1 : q_M), q_run q_D c q_m215 0 (lv_args 0 [.ref 0, .int 1, .int i, .int 3, .int k, .int n]) [] m = some (some (.int (if q_i m 87 2 = -1 ∨ q_i m 91 2 = -1 then Int32.ofInt (-6) else if q_i m 87 1 ≠ q_i m 91 1 then Int32.ofInt (-8) else if i.toInt < 0 ∨ k.toInt < 0 ∨ n.toInt < 0 ∨ q_i m 87 2 < i.toInt + n.toInt ∨ q_i m 91 2 < k.toInt + n.toInt then Int32.ofInt (-7) else Int32.ofInt 0)), m1) := by
  have hbs := x_pl_87_2 hM
  have hbt := x_pl_91_2 hM
  by_cases d0 : q_i m 87 2 = -1
  · rw [if_pos (Or.inl d0)]
    exact xp_C13a_p hM i k n d0
  by_cases d1 : q_i m 91 2 = -1
  · rw [if_pos (Or.inr d1)]
    exact xp_C13b_p hM i k n (by omega) d1
  rw [if_neg (by omega)]
  by_cases d2 : q_i m 87 1 = q_i m 91 1
  rotate_left
  · rw [if_pos d2]
    by_cases d3 : q_i m 87 1 < q_i m 91 1
    · exact xp_C13c_p hM i k n (by omega) (by omega) d3
    · exact xp_C13d_p hM i k n (by omega) (by omega) (by omega)
  rw [if_neg (by simpa using d2)]
  by_cases fe : i.toInt < 0
  · rw [if_pos (by omega)]
    exact xp_C13e_p hM i k n (by omega) (by omega) d2 fe
  by_cases ff : k.toInt < 0
  · rw [if_pos (by omega)]
    exact xp_C13f_p hM i k n (by omega) (by omega) d2 ff
  by_cases fg : n.toInt < 0
  · rw [if_pos (by omega)]
    exact xp_C13g_p hM i k n (by omega) (by omega) d2 fg
  by_cases fh : q_i m 87 2 < i.toInt + n.toInt
  · rw [if_pos (by omega)]
    exact xp_C13h_p hM i k n (by omega) (by omega) d2 (by omega) (by omega) (by omega) fh
  by_cases fj : q_i m 91 2 < k.toInt + n.toInt
  · rw [if_pos (by omega)]
    exact xp_C13j_p hM i k n (by omega) (by omega) d2 (by omega) (by omega) (by omega) (by omega) fj
  · rw [if_neg (by omega)]
    exact xp_C13k_p hM i k n (by omega) (by omega) d2 (by omega) (by omega) (by omega) (by omega) (by omega)
theorem xp_C20 {m : q_M} (hM : bi_M kc_I m) (i k n : Int32) : ∃ (c : Nat) (m1 : q_M), q_run q_D c q_m215 0 (lv_args 0 [.ref 0, .int 2, .int i, .int 0, .int k, .int n]) [] m = some (some (.int (if q_i m 89 2 = -1 ∨ q_i m 85 2 = -1 then Int32.ofInt (-6) else if q_i m 89 1 ≠ q_i m 85 1 then Int32.ofInt (-8) else if i.toInt < 0 ∨ k.toInt < 0 ∨ n.toInt < 0 ∨ q_i m 89 2 < i.toInt + n.toInt ∨ q_i m 85 2 < k.toInt + n.toInt then Int32.ofInt (-7) else Int32.ofInt 0)), m1) := by
  have hbs := x_pl_89_2 hM
  have hbt := x_pl_85_2 hM
  by_cases d0 : q_i m 89 2 = -1
  · rw [if_pos (Or.inl d0)]
    exact xp_C20a_p hM i k n d0
  by_cases d1 : q_i m 85 2 = -1
  · rw [if_pos (Or.inr d1)]
    exact xp_C20b_p hM i k n (by omega) d1
  rw [if_neg (by omega)]
  by_cases d2 : q_i m 89 1 = q_i m 85 1
  rotate_left
  · rw [if_pos d2]
    by_cases d3 : q_i m 89 1 < q_i m 85 1
    · exact xp_C20c_p hM i k n (by omega) (by omega) d3
    · exact xp_C20d_p hM i k n (by omega) (by omega) (by omega)
  rw [if_neg (by simpa using d2)]
  by_cases fe : i.toInt < 0
  · rw [if_pos (by omega)]
    exact xp_C20e_p hM i k n (by omega) (by omega) d2 fe
  by_cases ff : k.toInt < 0
  · rw [if_pos (by omega)]
    exact xp_C20f_p hM i k n (by omega) (by omega) d2 ff
  by_cases fg : n.toInt < 0
  · rw [if_pos (by omega)]
    exact xp_C20g_p hM i k n (by omega) (by omega) d2 fg
  by_cases fh : q_i m 89 2 < i.toInt + n.toInt
  · rw [if_pos (by omega)]
    exact xp_C20h_p hM i k n (by omega) (by omega) d2 (by omega) (by omega) (by omega) fh
  by_cases fj : q_i m 85 2 < k.toInt + n.toInt
  · rw [if_pos (by omega)]
    exact xp_C20j_p hM i k n (by omega) (by omega) d2 (by omega) (by omega) (by omega) (by omega) fj
  · rw [if_neg (by omega)]
    exact xp_C20k_p hM i k n (by omega) (by omega) d2 (by omega) (by omega) (by omega) (by omega) (by omega)
theorem xp_C21 {m : q_M} (hM : bi_M kc_I m) (i k n : Int32) : ∃ (c : Nat) (m1 : q_M), q_run q_D c q_m215 0 (lv_args 0 [.ref 0, .int 2, .int i, .int 1, .int k, .int n]) [] m = some (some (.int (if q_i m 89 2 = -1 ∨ q_i m 87 2 = -1 then Int32.ofInt (-6) else if q_i m 89 1 ≠ q_i m 87 1 then Int32.ofInt (-8) else if i.toInt < 0 ∨ k.toInt < 0 ∨ n.toInt < 0 ∨ q_i m 89 2 < i.toInt + n.toInt ∨ q_i m 87 2 < k.toInt + n.toInt then Int32.ofInt (-7) else Int32.ofInt 0)), m1) := by
  have hbs := x_pl_89_2 hM
  have hbt := x_pl_87_2 hM
  by_cases d0 : q_i m 89 2 = -1
  · rw [if_pos (Or.inl d0)]
    exact xp_C21a_p hM i k n d0
  by_cases d1 : q_i m 87 2 = -1
  · rw [if_pos (Or.inr d1)]
    exact xp_C21b_p hM i k n (by omega) d1
  rw [if_neg (by omega)]
  by_cases d2 : q_i m 89 1 = q_i m 87 1
  rotate_left
  · rw [if_pos d2]
    by_cases d3 : q_i m 89 1 < q_i m 87 1
    · exact xp_C21c_p hM i k n (by omega) (by omega) d3
    · exact xp_C21d_p hM i k n (by omega) (by omega) (by omega)
  rw [if_neg (by simpa using d2)]
  by_cases fe : i.toInt < 0
  · rw [if_pos (by omega)]
    exact xp_C21e_p hM i k n (by omega) (by omega) d2 fe
  by_cases ff : k.toInt < 0
  · rw [if_pos (by omega)]
    exact xp_C21f_p hM i k n (by omega) (by omega) d2 ff
  by_cases fg : n.toInt < 0
  · rw [if_pos (by omega)]
    exact xp_C21g_p hM i k n (by omega) (by omega) d2 fg
  by_cases fh : q_i m 89 2 < i.toInt + n.toInt
  · rw [if_pos (by omega)]
    exact xp_C21h_p hM i k n (by omega) (by omega) d2 (by omega) (by omega) (by omega) fh
  by_cases fj : q_i m 87 2 < k.toInt + n.toInt
  · rw [if_pos (by omega)]
    exact xp_C21j_p hM i k n (by omega) (by omega) d2 (by omega) (by omega) (by omega) (by omega) fj
  · rw [if_neg (by omega)]
    exact xp_C21k_p hM i k n (by omega) (by omega) d2 (by omega) (by omega) (by omega) (by omega) (by omega)
theorem xp_C22 {m : q_M} (hM : bi_M kc_I m) (i k n : Int32) : ∃ (c : Nat) (m1 : q_M), q_run q_D c q_m215 0 (lv_args 0 [.ref 0, .int 2, .int i, .int 2, .int k, .int n]) [] m = some (some (.int (if q_i m 89 2 = -1 ∨ q_i m 89 2 = -1 then Int32.ofInt (-6) else if q_i m 89 1 ≠ q_i m 89 1 then Int32.ofInt (-8) else if i.toInt < 0 ∨ k.toInt < 0 ∨ n.toInt < 0 ∨ q_i m 89 2 < i.toInt + n.toInt ∨ q_i m 89 2 < k.toInt + n.toInt then Int32.ofInt (-7) else Int32.ofInt 0)), m1) := by
  have hbs := x_pl_89_2 hM
  have hbt := x_pl_89_2 hM
  by_cases d0 : q_i m 89 2 = -1
  · rw [if_pos (Or.inl d0)]
    exact xp_C22a_p hM i k n d0
  rw [if_neg (by omega), if_neg (by simp)]
  by_cases fe : i.toInt < 0
  · rw [if_pos (by omega)]
    exact xp_C22e_p hM i k n (by omega) fe
  by_cases ff : k.toInt < 0
  · rw [if_pos (by omega)]
    exact xp_C22f_p hM i k n (by omega) ff
  by_cases fg : n.toInt < 0
  · rw [if_pos (by omega)]
    exact xp_C22g_p hM i k n (by omega) fg
  by_cases fh : q_i m 89 2 < i.toInt + n.toInt
  · rw [if_pos (by omega)]
    exact xp_C22h_p hM i k n (by omega) (by omega) (by omega) (by omega) fh
  by_cases fj : q_i m 89 2 < k.toInt + n.toInt
  · rw [if_pos (by omega)]
    exact xp_C22j_p hM i k n (by omega) (by omega) (by omega) (by omega) (by omega) fj
  · rw [if_neg (by omega)]
    exact xp_C22k_p hM i k n (by omega) (by omega) (by omega) (by omega) (by omega) (by omega)
theorem xp_C23 {m : q_M} (hM : bi_M kc_I m) (i k n : Int32) : ∃ (c : Nat) (m1 : q_M), q_run q_D c q_m215 0 (lv_args 0 [.ref 0, .int 2, .int i, .int 3, .int k, .int n]) [] m = some (some (.int (if q_i m 89 2 = -1 ∨ q_i m 91 2 = -1 then Int32.ofInt (-6) else if q_i m 89 1 ≠ q_i m 91 1 then Int32.ofInt (-8) else if i.toInt < 0 ∨ k.toInt < 0 ∨ n.toInt < 0 ∨ q_i m 89 2 < i.toInt + n.toInt ∨ q_i m 91 2 < k.toInt + n.toInt then Int32.ofInt (-7) else Int32.ofInt 0)), m1) := by
  have hbs := x_pl_89_2 hM
  have hbt := x_pl_91_2 hM
  by_cases d0 : q_i m 89 2 = -1
  · rw [if_pos (Or.inl d0)]
    exact xp_C23a_p hM i k n d0
  by_cases d1 : q_i m 91 2 = -1
  · rw [if_pos (Or.inr d1)]
    exact xp_C23b_p hM i k n (by omega) d1
  rw [if_neg (by omega)]
  by_cases d2 : q_i m 89 1 = q_i m 91 1
  rotate_left
  · rw [if_pos d2]
    by_cases d3 : q_i m 89 1 < q_i m 91 1
    · exact xp_C23c_p hM i k n (by omega) (by omega) d3
    · exact xp_C23d_p hM i k n (by omega) (by omega) (by omega)
  rw [if_neg (by simpa using d2)]
  by_cases fe : i.toInt < 0
  · rw [if_pos (by omega)]
    exact xp_C23e_p hM i k n (by omega) (by omega) d2 fe
  by_cases ff : k.toInt < 0
  · rw [if_pos (by omega)]
    exact xp_C23f_p hM i k n (by omega) (by omega) d2 ff
  by_cases fg : n.toInt < 0
  · rw [if_pos (by omega)]
    exact xp_C23g_p hM i k n (by omega) (by omega) d2 fg
  by_cases fh : q_i m 89 2 < i.toInt + n.toInt
  · rw [if_pos (by omega)]
    exact xp_C23h_p hM i k n (by omega) (by omega) d2 (by omega) (by omega) (by omega) fh
  by_cases fj : q_i m 91 2 < k.toInt + n.toInt
  · rw [if_pos (by omega)]
    exact xp_C23j_p hM i k n (by omega) (by omega) d2 (by omega) (by omega) (by omega) (by omega) fj
  · rw [if_neg (by omega)]
    exact xp_C23k_p hM i k n (by omega) (by omega) d2 (by omega) (by omega) (by omega) (by omega) (by omega)
theorem xp_C30 {m : q_M} (hM : bi_M kc_I m) (i k n : Int32) : ∃ (c : Nat) (m1 : q_M), q_run q_D c q_m215 0 (lv_args 0 [.ref 0, .int 3, .int i, .int 0, .int k, .int n]) [] m = some (some (.int (if q_i m 91 2 = -1 ∨ q_i m 85 2 = -1 then Int32.ofInt (-6) else if q_i m 91 1 ≠ q_i m 85 1 then Int32.ofInt (-8) else if i.toInt < 0 ∨ k.toInt < 0 ∨ n.toInt < 0 ∨ q_i m 91 2 < i.toInt + n.toInt ∨ q_i m 85 2 < k.toInt + n.toInt then Int32.ofInt (-7) else Int32.ofInt 0)), m1) := by
  have hbs := x_pl_91_2 hM
  have hbt := x_pl_85_2 hM
  by_cases d0 : q_i m 91 2 = -1
  · rw [if_pos (Or.inl d0)]
    exact xp_C30a_p hM i k n d0
  by_cases d1 : q_i m 85 2 = -1
  · rw [if_pos (Or.inr d1)]
    exact xp_C30b_p hM i k n (by omega) d1
  rw [if_neg (by omega)]
  by_cases d2 : q_i m 91 1 = q_i m 85 1
  rotate_left
  · rw [if_pos d2]
    by_cases d3 : q_i m 91 1 < q_i m 85 1
    · exact xp_C30c_p hM i k n (by omega) (by omega) d3
    · exact xp_C30d_p hM i k n (by omega) (by omega) (by omega)
  rw [if_neg (by simpa using d2)]
  by_cases fe : i.toInt < 0
  · rw [if_pos (by omega)]
    exact xp_C30e_p hM i k n (by omega) (by omega) d2 fe
  by_cases ff : k.toInt < 0
  · rw [if_pos (by omega)]
    exact xp_C30f_p hM i k n (by omega) (by omega) d2 ff
  by_cases fg : n.toInt < 0
  · rw [if_pos (by omega)]
    exact xp_C30g_p hM i k n (by omega) (by omega) d2 fg
  by_cases fh : q_i m 91 2 < i.toInt + n.toInt
  · rw [if_pos (by omega)]
    exact xp_C30h_p hM i k n (by omega) (by omega) d2 (by omega) (by omega) (by omega) fh
  by_cases fj : q_i m 85 2 < k.toInt + n.toInt
  · rw [if_pos (by omega)]
    exact xp_C30j_p hM i k n (by omega) (by omega) d2 (by omega) (by omega) (by omega) (by omega) fj
  · rw [if_neg (by omega)]
    exact xp_C30k_p hM i k n (by omega) (by omega) d2 (by omega) (by omega) (by omega) (by omega) (by omega)
theorem xp_C31 {m : q_M} (hM : bi_M kc_I m) (i k n : Int32) : ∃ (c : Nat) (m1 : q_M), q_run q_D c q_m215 0 (lv_args 0 [.ref 0, .int 3, .int i, .int 1, .int k, .int n]) [] m = some (some (.int (if q_i m 91 2 = -1 ∨ q_i m 87 2 = -1 then Int32.ofInt (-6) else if q_i m 91 1 ≠ q_i m 87 1 then Int32.ofInt (-8) else if i.toInt < 0 ∨ k.toInt < 0 ∨ n.toInt < 0 ∨ q_i m 91 2 < i.toInt + n.toInt ∨ q_i m 87 2 < k.toInt + n.toInt then Int32.ofInt (-7) else Int32.ofInt 0)), m1) := by
  have hbs := x_pl_91_2 hM
  have hbt := x_pl_87_2 hM
  by_cases d0 : q_i m 91 2 = -1
  · rw [if_pos (Or.inl d0)]
    exact xp_C31a_p hM i k n d0
  by_cases d1 : q_i m 87 2 = -1
  · rw [if_pos (Or.inr d1)]
    exact xp_C31b_p hM i k n (by omega) d1
  rw [if_neg (by omega)]
  by_cases d2 : q_i m 91 1 = q_i m 87 1
  rotate_left
  · rw [if_pos d2]
    by_cases d3 : q_i m 91 1 < q_i m 87 1
    · exact xp_C31c_p hM i k n (by omega) (by omega) d3
    · exact xp_C31d_p hM i k n (by omega) (by omega) (by omega)
  rw [if_neg (by simpa using d2)]
  by_cases fe : i.toInt < 0
  · rw [if_pos (by omega)]
    exact xp_C31e_p hM i k n (by omega) (by omega) d2 fe
  by_cases ff : k.toInt < 0
  · rw [if_pos (by omega)]
    exact xp_C31f_p hM i k n (by omega) (by omega) d2 ff
  by_cases fg : n.toInt < 0
  · rw [if_pos (by omega)]
    exact xp_C31g_p hM i k n (by omega) (by omega) d2 fg
  by_cases fh : q_i m 91 2 < i.toInt + n.toInt
  · rw [if_pos (by omega)]
    exact xp_C31h_p hM i k n (by omega) (by omega) d2 (by omega) (by omega) (by omega) fh
  by_cases fj : q_i m 87 2 < k.toInt + n.toInt
  · rw [if_pos (by omega)]
    exact xp_C31j_p hM i k n (by omega) (by omega) d2 (by omega) (by omega) (by omega) (by omega) fj
  · rw [if_neg (by omega)]
    exact xp_C31k_p hM i k n (by omega) (by omega) d2 (by omega) (by omega) (by omega) (by omega) (by omega)
theorem xp_C32 {m : q_M} (hM : bi_M kc_I m) (i k n : Int32) : ∃ (c : Nat) (m1 : q_M), q_run q_D c q_m215 0 (lv_args 0 [.ref 0, .int 3, .int i, .int 2, .int k, .int n]) [] m = some (some (.int (if q_i m 91 2 = -1 ∨ q_i m 89 2 = -1 then Int32.ofInt (-6) else if q_i m 91 1 ≠ q_i m 89 1 then Int32.ofInt (-8) else if i.toInt < 0 ∨ k.toInt < 0 ∨ n.toInt < 0 ∨ q_i m 91 2 < i.toInt + n.toInt ∨ q_i m 89 2 < k.toInt + n.toInt then Int32.ofInt (-7) else Int32.ofInt 0)), m1) := by
  have hbs := x_pl_91_2 hM
  have hbt := x_pl_89_2 hM
  by_cases d0 : q_i m 91 2 = -1
  · rw [if_pos (Or.inl d0)]
    exact xp_C32a_p hM i k n d0
  by_cases d1 : q_i m 89 2 = -1
  · rw [if_pos (Or.inr d1)]
    exact xp_C32b_p hM i k n (by omega) d1
  rw [if_neg (by omega)]
  by_cases d2 : q_i m 91 1 = q_i m 89 1
  rotate_left
  · rw [if_pos d2]
    by_cases d3 : q_i m 91 1 < q_i m 89 1
    · exact xp_C32c_p hM i k n (by omega) (by omega) d3
    · exact xp_C32d_p hM i k n (by omega) (by omega) (by omega)
  rw [if_neg (by simpa using d2)]
  by_cases fe : i.toInt < 0
  · rw [if_pos (by omega)]
    exact xp_C32e_p hM i k n (by omega) (by omega) d2 fe
  by_cases ff : k.toInt < 0
  · rw [if_pos (by omega)]
    exact xp_C32f_p hM i k n (by omega) (by omega) d2 ff
  by_cases fg : n.toInt < 0
  · rw [if_pos (by omega)]
    exact xp_C32g_p hM i k n (by omega) (by omega) d2 fg
  by_cases fh : q_i m 91 2 < i.toInt + n.toInt
  · rw [if_pos (by omega)]
    exact xp_C32h_p hM i k n (by omega) (by omega) d2 (by omega) (by omega) (by omega) fh
  by_cases fj : q_i m 89 2 < k.toInt + n.toInt
  · rw [if_pos (by omega)]
    exact xp_C32j_p hM i k n (by omega) (by omega) d2 (by omega) (by omega) (by omega) (by omega) fj
  · rw [if_neg (by omega)]
    exact xp_C32k_p hM i k n (by omega) (by omega) d2 (by omega) (by omega) (by omega) (by omega) (by omega)
theorem xp_C33 {m : q_M} (hM : bi_M kc_I m) (i k n : Int32) : ∃ (c : Nat) (m1 : q_M), q_run q_D c q_m215 0 (lv_args 0 [.ref 0, .int 3, .int i, .int 3, .int k, .int n]) [] m = some (some (.int (if q_i m 91 2 = -1 ∨ q_i m 91 2 = -1 then Int32.ofInt (-6) else if q_i m 91 1 ≠ q_i m 91 1 then Int32.ofInt (-8) else if i.toInt < 0 ∨ k.toInt < 0 ∨ n.toInt < 0 ∨ q_i m 91 2 < i.toInt + n.toInt ∨ q_i m 91 2 < k.toInt + n.toInt then Int32.ofInt (-7) else Int32.ofInt 0)), m1) := by
  have hbs := x_pl_91_2 hM
  have hbt := x_pl_91_2 hM
  by_cases d0 : q_i m 91 2 = -1
  · rw [if_pos (Or.inl d0)]
    exact xp_C33a_p hM i k n d0
  rw [if_neg (by omega), if_neg (by simp)]
  by_cases fe : i.toInt < 0
  · rw [if_pos (by omega)]
    exact xp_C33e_p hM i k n (by omega) fe
  by_cases ff : k.toInt < 0
  · rw [if_pos (by omega)]
    exact xp_C33f_p hM i k n (by omega) ff
  by_cases fg : n.toInt < 0
  · rw [if_pos (by omega)]
    exact xp_C33g_p hM i k n (by omega) fg
  by_cases fh : q_i m 91 2 < i.toInt + n.toInt
  · rw [if_pos (by omega)]
    exact xp_C33h_p hM i k n (by omega) (by omega) (by omega) (by omega) fh
  by_cases fj : q_i m 91 2 < k.toInt + n.toInt
  · rw [if_pos (by omega)]
    exact xp_C33j_p hM i k n (by omega) (by omega) (by omega) (by omega) (by omega) fj
  · rw [if_neg (by omega)]
    exact xp_C33k_p hM i k n (by omega) (by omega) (by omega) (by omega) (by omega) (by omega)
theorem x_paC {m0 m : q_M} (h : x_J m) (hg : x_sg m0 m) (u i t k n : Int32) : ∃ (c : Nat) (m1 : q_M), q_run q_D c q_m215 0 (lv_args 0 [.ref 0, .int u, .int i, .int t, .int k, .int n]) [] m = some (some (.int (x_pv m0 u i t k n)), m1) ∧ l_J m1 ∧ q_same [(86, 0, 59), (88, 0, 59), (90, 0, 59), (92, 0, 59)] m m1 := by
  have u1 := Int32.le_toInt u
  have u2 := Int32.toInt_lt u
  have i1 := Int32.le_toInt i
  have i2 := Int32.toInt_lt i
  have t1 := Int32.le_toInt t
  have t2 := Int32.toInt_lt t
  have k1 := Int32.le_toInt k
  have k2 := Int32.toInt_lt k
  have n1 := Int32.le_toInt n
  have n2 := Int32.toInt_lt n
  have hM : (q_gM q_D)[215]? = some q_m215 := rfl
  obtain ⟨c, r, m1, r1, r2, r3, -⟩ := l_run1 (ka_243 0) (by decide +kernel) hM (ys := [.ref 0, .int u, .int i, .int t, .int k, .int n]) (zs := [u.toInt, i.toInt, t.toInt, k.toInt, n.toInt]) ⟨rfl, ⟨u, rfl, rfl⟩, by omega, by omega, ⟨i, rfl, rfl⟩, by omega, by omega, ⟨t, rfl, rfl⟩, by omega, by omega, ⟨k, rfl, rfl⟩, by omega, by omega, ⟨n, rfl, rfl⟩, by omega, by omega, rfl⟩ h.1
  unfold x_pv
  by_cases c0 : u.toInt < 0
  · obtain ⟨n2, m2, h1, -, -⟩ := l_exb kw_C0_a (by decide +kernel) (fun o h => by rw [List.mem_singleton.mp h]) hM (ys := [.ref 0, .int u, .int i, .int t, .int k, .int n]) (zs := [u.toInt, i.toInt, t.toInt, k.toInt, n.toInt]) ⟨rfl, ⟨u, rfl, rfl⟩, by omega, by omega, ⟨i, rfl, rfl⟩, by omega, by omega, ⟨t, rfl, rfl⟩, by omega, by omega, ⟨k, rfl, rfl⟩, by omega, by omega, ⟨n, rfl, rfl⟩, by omega, by omega, rfl⟩ h.1
    have e := x_det r1 h1
    cases e
    rw [if_pos (by omega)]
    exact ⟨c, _, r1, r2, r3⟩
  by_cases c1 : 3 < u.toInt
  · obtain ⟨n2, m2, h1, -, -⟩ := l_exb kw_C1_a (by decide +kernel) (fun o h => by rw [List.mem_singleton.mp h]) hM (ys := [.ref 0, .int u, .int i, .int t, .int k, .int n]) (zs := [u.toInt, i.toInt, t.toInt, k.toInt, n.toInt]) ⟨rfl, ⟨u, rfl, rfl⟩, by omega, by omega, ⟨i, rfl, rfl⟩, by omega, by omega, ⟨t, rfl, rfl⟩, by omega, by omega, ⟨k, rfl, rfl⟩, by omega, by omega, ⟨n, rfl, rfl⟩, by omega, by omega, rfl⟩ h.1
    have e := x_det r1 h1
    cases e
    rw [if_pos (by omega)]
    exact ⟨c, _, r1, r2, r3⟩
  by_cases c2 : t.toInt < 0
  · obtain ⟨n2, m2, h1, -, -⟩ := l_exb kw_C2_a (by decide +kernel) (fun o h => by rw [List.mem_singleton.mp h]) hM (ys := [.ref 0, .int u, .int i, .int t, .int k, .int n]) (zs := [u.toInt, i.toInt, t.toInt, k.toInt, n.toInt]) ⟨rfl, ⟨u, rfl, rfl⟩, by omega, by omega, ⟨i, rfl, rfl⟩, by omega, by omega, ⟨t, rfl, rfl⟩, by omega, by omega, ⟨k, rfl, rfl⟩, by omega, by omega, ⟨n, rfl, rfl⟩, by omega, by omega, rfl⟩ h.1
    have e := x_det r1 h1
    cases e
    rw [if_pos (by omega)]
    exact ⟨c, _, r1, r2, r3⟩
  by_cases c3 : 3 < t.toInt
  · obtain ⟨n2, m2, h1, -, -⟩ := l_exb kw_C3_a (by decide +kernel) (fun o h => by rw [List.mem_singleton.mp h]) hM (ys := [.ref 0, .int u, .int i, .int t, .int k, .int n]) (zs := [u.toInt, i.toInt, t.toInt, k.toInt, n.toInt]) ⟨rfl, ⟨u, rfl, rfl⟩, by omega, by omega, ⟨i, rfl, rfl⟩, by omega, by omega, ⟨t, rfl, rfl⟩, by omega, by omega, ⟨k, rfl, rfl⟩, by omega, by omega, ⟨n, rfl, rfl⟩, by omega, by omega, rfl⟩ h.1
    have e := x_det r1 h1
    cases e
    rw [if_pos (by omega)]
    exact ⟨c, _, r1, r2, r3⟩
  rw [if_neg (by omega)]
  have hu : u.toInt = 0 ∨ u.toInt = 1 ∨ u.toInt = 2 ∨ u.toInt = 3 := by omega
  have ht : t.toInt = 0 ∨ t.toInt = 1 ∨ t.toInt = 2 ∨ t.toInt = 3 := by omega
  rcases hu with hu | hu | hu | hu <;> rcases ht with ht | ht | ht | ht
  · have eu : u = 0 := x_i32 (show u.toInt = (0 : Int32).toInt from hu)
    have et : t = 0 := x_i32 (show t.toInt = (0 : Int32).toInt from ht)
    subst eu et
    obtain ⟨n2, m2, h1⟩ := xp_C00 h.1.1 i k n
    have e := x_det r1 h1
    cases e
    refine ⟨c, _, ?_, r2, r3⟩
    have f1 : q_i m0 114 ((0 : Int32).toInt.toNat) = _ := (((h.2.2 0 (by decide)).1.trans (hg.2 0 (by decide)).1)).symm
    have f2 : q_i m0 114 ((0 : Int32).toInt.toNat) = _ := (((h.2.2 0 (by decide)).1.trans (hg.2 0 (by decide)).1)).symm
    have f3 : q_i m0 115 ((0 : Int32).toInt.toNat) = _ := (((h.2.2 0 (by decide)).2.trans (hg.2 0 (by decide)).2)).symm
    have f4 : q_i m0 115 ((0 : Int32).toInt.toNat) = _ := (((h.2.2 0 (by decide)).2.trans (hg.2 0 (by decide)).2)).symm
    simp only [f1, f2, f3, f4]
    exact r1
  · have eu : u = 0 := x_i32 (show u.toInt = (0 : Int32).toInt from hu)
    have et : t = 1 := x_i32 (show t.toInt = (1 : Int32).toInt from ht)
    subst eu et
    obtain ⟨n2, m2, h1⟩ := xp_C01 h.1.1 i k n
    have e := x_det r1 h1
    cases e
    refine ⟨c, _, ?_, r2, r3⟩
    have f1 : q_i m0 114 ((0 : Int32).toInt.toNat) = _ := (((h.2.2 0 (by decide)).1.trans (hg.2 0 (by decide)).1)).symm
    have f2 : q_i m0 114 ((1 : Int32).toInt.toNat) = _ := (((h.2.2 1 (by decide)).1.trans (hg.2 1 (by decide)).1)).symm
    have f3 : q_i m0 115 ((0 : Int32).toInt.toNat) = _ := (((h.2.2 0 (by decide)).2.trans (hg.2 0 (by decide)).2)).symm
    have f4 : q_i m0 115 ((1 : Int32).toInt.toNat) = _ := (((h.2.2 1 (by decide)).2.trans (hg.2 1 (by decide)).2)).symm
    simp only [f1, f2, f3, f4]
    exact r1
  · have eu : u = 0 := x_i32 (show u.toInt = (0 : Int32).toInt from hu)
    have et : t = 2 := x_i32 (show t.toInt = (2 : Int32).toInt from ht)
    subst eu et
    obtain ⟨n2, m2, h1⟩ := xp_C02 h.1.1 i k n
    have e := x_det r1 h1
    cases e
    refine ⟨c, _, ?_, r2, r3⟩
    have f1 : q_i m0 114 ((0 : Int32).toInt.toNat) = _ := (((h.2.2 0 (by decide)).1.trans (hg.2 0 (by decide)).1)).symm
    have f2 : q_i m0 114 ((2 : Int32).toInt.toNat) = _ := (((h.2.2 2 (by decide)).1.trans (hg.2 2 (by decide)).1)).symm
    have f3 : q_i m0 115 ((0 : Int32).toInt.toNat) = _ := (((h.2.2 0 (by decide)).2.trans (hg.2 0 (by decide)).2)).symm
    have f4 : q_i m0 115 ((2 : Int32).toInt.toNat) = _ := (((h.2.2 2 (by decide)).2.trans (hg.2 2 (by decide)).2)).symm
    simp only [f1, f2, f3, f4]
    exact r1
  · have eu : u = 0 := x_i32 (show u.toInt = (0 : Int32).toInt from hu)
    have et : t = 3 := x_i32 (show t.toInt = (3 : Int32).toInt from ht)
    subst eu et
    obtain ⟨n2, m2, h1⟩ := xp_C03 h.1.1 i k n
    have e := x_det r1 h1
    cases e
    refine ⟨c, _, ?_, r2, r3⟩
    have f1 : q_i m0 114 ((0 : Int32).toInt.toNat) = _ := (((h.2.2 0 (by decide)).1.trans (hg.2 0 (by decide)).1)).symm
    have f2 : q_i m0 114 ((3 : Int32).toInt.toNat) = _ := (((h.2.2 3 (by decide)).1.trans (hg.2 3 (by decide)).1)).symm
    have f3 : q_i m0 115 ((0 : Int32).toInt.toNat) = _ := (((h.2.2 0 (by decide)).2.trans (hg.2 0 (by decide)).2)).symm
    have f4 : q_i m0 115 ((3 : Int32).toInt.toNat) = _ := (((h.2.2 3 (by decide)).2.trans (hg.2 3 (by decide)).2)).symm
    simp only [f1, f2, f3, f4]
    exact r1
  · have eu : u = 1 := x_i32 (show u.toInt = (1 : Int32).toInt from hu)
    have et : t = 0 := x_i32 (show t.toInt = (0 : Int32).toInt from ht)
    subst eu et
    obtain ⟨n2, m2, h1⟩ := xp_C10 h.1.1 i k n
    have e := x_det r1 h1
    cases e
    refine ⟨c, _, ?_, r2, r3⟩
    have f1 : q_i m0 114 ((1 : Int32).toInt.toNat) = _ := (((h.2.2 1 (by decide)).1.trans (hg.2 1 (by decide)).1)).symm
    have f2 : q_i m0 114 ((0 : Int32).toInt.toNat) = _ := (((h.2.2 0 (by decide)).1.trans (hg.2 0 (by decide)).1)).symm
    have f3 : q_i m0 115 ((1 : Int32).toInt.toNat) = _ := (((h.2.2 1 (by decide)).2.trans (hg.2 1 (by decide)).2)).symm
    have f4 : q_i m0 115 ((0 : Int32).toInt.toNat) = _ := (((h.2.2 0 (by decide)).2.trans (hg.2 0 (by decide)).2)).symm
    simp only [f1, f2, f3, f4]
    exact r1
  · have eu : u = 1 := x_i32 (show u.toInt = (1 : Int32).toInt from hu)
    have et : t = 1 := x_i32 (show t.toInt = (1 : Int32).toInt from ht)
    subst eu et
    obtain ⟨n2, m2, h1⟩ := xp_C11 h.1.1 i k n
    have e := x_det r1 h1
    cases e
    refine ⟨c, _, ?_, r2, r3⟩
    have f1 : q_i m0 114 ((1 : Int32).toInt.toNat) = _ := (((h.2.2 1 (by decide)).1.trans (hg.2 1 (by decide)).1)).symm
    have f2 : q_i m0 114 ((1 : Int32).toInt.toNat) = _ := (((h.2.2 1 (by decide)).1.trans (hg.2 1 (by decide)).1)).symm
    have f3 : q_i m0 115 ((1 : Int32).toInt.toNat) = _ := (((h.2.2 1 (by decide)).2.trans (hg.2 1 (by decide)).2)).symm
    have f4 : q_i m0 115 ((1 : Int32).toInt.toNat) = _ := (((h.2.2 1 (by decide)).2.trans (hg.2 1 (by decide)).2)).symm
    simp only [f1, f2, f3, f4]
    exact r1
  · have eu : u = 1 := x_i32 (show u.toInt = (1 : Int32).toInt from hu)
    have et : t = 2 := x_i32 (show t.toInt = (2 : Int32).toInt from ht)
    subst eu et
    obtain ⟨n2, m2, h1⟩ := xp_C12 h.1.1 i k n
    have e := x_det r1 h1
    cases e
    refine ⟨c, _, ?_, r2, r3⟩
    have f1 : q_i m0 114 ((1 : Int32).toInt.toNat) = _ := (((h.2.2 1 (by decide)).1.trans (hg.2 1 (by decide)).1)).symm
    have f2 : q_i m0 114 ((2 : Int32).toInt.toNat) = _ := (((h.2.2 2 (by decide)).1.trans (hg.2 2 (by decide)).1)).symm
    have f3 : q_i m0 115 ((1 : Int32).toInt.toNat) = _ := (((h.2.2 1 (by decide)).2.trans (hg.2 1 (by decide)).2)).symm
    have f4 : q_i m0 115 ((2 : Int32).toInt.toNat) = _ := (((h.2.2 2 (by decide)).2.trans (hg.2 2 (by decide)).2)).symm
    simp only [f1, f2, f3, f4]
    exact r1
  · have eu : u = 1 := x_i32 (show u.toInt = (1 : Int32).toInt from hu)
    have et : t = 3 := x_i32 (show t.toInt = (3 : Int32).toInt from ht)
    subst eu et
    obtain ⟨n2, m2, h1⟩ := xp_C13 h.1.1 i k n
    have e := x_det r1 h1
    cases e
    refine ⟨c, _, ?_, r2, r3⟩
    have f1 : q_i m0 114 ((1 : Int32).toInt.toNat) = _ := (((h.2.2 1 (by decide)).1.trans (hg.2 1 (by decide)).1)).symm
    have f2 : q_i m0 114 ((3 : Int32).toInt.toNat) = _ := (((h.2.2 3 (by decide)).1.trans (hg.2 3 (by decide)).1)).symm
    have f3 : q_i m0 115 ((1 : Int32).toInt.toNat) = _ := (((h.2.2 1 (by decide)).2.trans (hg.2 1 (by decide)).2)).symm
    have f4 : q_i m0 115 ((3 : Int32).toInt.toNat) = _ := (((h.2.2 3 (by decide)).2.trans (hg.2 3 (by decide)).2)).symm
    simp only [f1, f2, f3, f4]
    exact r1
  · have eu : u = 2 := x_i32 (show u.toInt = (2 : Int32).toInt from hu)
    have et : t = 0 := x_i32 (show t.toInt = (0 : Int32).toInt from ht)
    subst eu et
    obtain ⟨n2, m2, h1⟩ := xp_C20 h.1.1 i k n
    have e := x_det r1 h1
    cases e
    refine ⟨c, _, ?_, r2, r3⟩
    have f1 : q_i m0 114 ((2 : Int32).toInt.toNat) = _ := (((h.2.2 2 (by decide)).1.trans (hg.2 2 (by decide)).1)).symm
    have f2 : q_i m0 114 ((0 : Int32).toInt.toNat) = _ := (((h.2.2 0 (by decide)).1.trans (hg.2 0 (by decide)).1)).symm
    have f3 : q_i m0 115 ((2 : Int32).toInt.toNat) = _ := (((h.2.2 2 (by decide)).2.trans (hg.2 2 (by decide)).2)).symm
    have f4 : q_i m0 115 ((0 : Int32).toInt.toNat) = _ := (((h.2.2 0 (by decide)).2.trans (hg.2 0 (by decide)).2)).symm
    simp only [f1, f2, f3, f4]
    exact r1
  · have eu : u = 2 := x_i32 (show u.toInt = (2 : Int32).toInt from hu)
    have et : t = 1 := x_i32 (show t.toInt = (1 : Int32).toInt from ht)
    subst eu et
    obtain ⟨n2, m2, h1⟩ := xp_C21 h.1.1 i k n
    have e := x_det r1 h1
    cases e
    refine ⟨c, _, ?_, r2, r3⟩
    have f1 : q_i m0 114 ((2 : Int32).toInt.toNat) = _ := (((h.2.2 2 (by decide)).1.trans (hg.2 2 (by decide)).1)).symm
    have f2 : q_i m0 114 ((1 : Int32).toInt.toNat) = _ := (((h.2.2 1 (by decide)).1.trans (hg.2 1 (by decide)).1)).symm
    have f3 : q_i m0 115 ((2 : Int32).toInt.toNat) = _ := (((h.2.2 2 (by decide)).2.trans (hg.2 2 (by decide)).2)).symm
    have f4 : q_i m0 115 ((1 : Int32).toInt.toNat) = _ := (((h.2.2 1 (by decide)).2.trans (hg.2 1 (by decide)).2)).symm
    simp only [f1, f2, f3, f4]
    exact r1
  · have eu : u = 2 := x_i32 (show u.toInt = (2 : Int32).toInt from hu)
    have et : t = 2 := x_i32 (show t.toInt = (2 : Int32).toInt from ht)
    subst eu et
    obtain ⟨n2, m2, h1⟩ := xp_C22 h.1.1 i k n
    have e := x_det r1 h1
    cases e
    refine ⟨c, _, ?_, r2, r3⟩
    have f1 : q_i m0 114 ((2 : Int32).toInt.toNat) = _ := (((h.2.2 2 (by decide)).1.trans (hg.2 2 (by decide)).1)).symm
    have f2 : q_i m0 114 ((2 : Int32).toInt.toNat) = _ := (((h.2.2 2 (by decide)).1.trans (hg.2 2 (by decide)).1)).symm
    have f3 : q_i m0 115 ((2 : Int32).toInt.toNat) = _ := (((h.2.2 2 (by decide)).2.trans (hg.2 2 (by decide)).2)).symm
    have f4 : q_i m0 115 ((2 : Int32).toInt.toNat) = _ := (((h.2.2 2 (by decide)).2.trans (hg.2 2 (by decide)).2)).symm
    simp only [f1, f2, f3, f4]
    exact r1
  · have eu : u = 2 := x_i32 (show u.toInt = (2 : Int32).toInt from hu)
    have et : t = 3 := x_i32 (show t.toInt = (3 : Int32).toInt from ht)
    subst eu et
    obtain ⟨n2, m2, h1⟩ := xp_C23 h.1.1 i k n
    have e := x_det r1 h1
    cases e
    refine ⟨c, _, ?_, r2, r3⟩
    have f1 : q_i m0 114 ((2 : Int32).toInt.toNat) = _ := (((h.2.2 2 (by decide)).1.trans (hg.2 2 (by decide)).1)).symm
    have f2 : q_i m0 114 ((3 : Int32).toInt.toNat) = _ := (((h.2.2 3 (by decide)).1.trans (hg.2 3 (by decide)).1)).symm
    have f3 : q_i m0 115 ((2 : Int32).toInt.toNat) = _ := (((h.2.2 2 (by decide)).2.trans (hg.2 2 (by decide)).2)).symm
    have f4 : q_i m0 115 ((3 : Int32).toInt.toNat) = _ := (((h.2.2 3 (by decide)).2.trans (hg.2 3 (by decide)).2)).symm
    simp only [f1, f2, f3, f4]
    exact r1
  · have eu : u = 3 := x_i32 (show u.toInt = (3 : Int32).toInt from hu)
    have et : t = 0 := x_i32 (show t.toInt = (0 : Int32).toInt from ht)
    subst eu et
    obtain ⟨n2, m2, h1⟩ := xp_C30 h.1.1 i k n
    have e := x_det r1 h1
    cases e
    refine ⟨c, _, ?_, r2, r3⟩
    have f1 : q_i m0 114 ((3 : Int32).toInt.toNat) = _ := (((h.2.2 3 (by decide)).1.trans (hg.2 3 (by decide)).1)).symm
    have f2 : q_i m0 114 ((0 : Int32).toInt.toNat) = _ := (((h.2.2 0 (by decide)).1.trans (hg.2 0 (by decide)).1)).symm
    have f3 : q_i m0 115 ((3 : Int32).toInt.toNat) = _ := (((h.2.2 3 (by decide)).2.trans (hg.2 3 (by decide)).2)).symm
    have f4 : q_i m0 115 ((0 : Int32).toInt.toNat) = _ := (((h.2.2 0 (by decide)).2.trans (hg.2 0 (by decide)).2)).symm
    simp only [f1, f2, f3, f4]
    exact r1
  · have eu : u = 3 := x_i32 (show u.toInt = (3 : Int32).toInt from hu)
    have et : t = 1 := x_i32 (show t.toInt = (1 : Int32).toInt from ht)
    subst eu et
    obtain ⟨n2, m2, h1⟩ := xp_C31 h.1.1 i k n
    have e := x_det r1 h1
    cases e
    refine ⟨c, _, ?_, r2, r3⟩
    have f1 : q_i m0 114 ((3 : Int32).toInt.toNat) = _ := (((h.2.2 3 (by decide)).1.trans (hg.2 3 (by decide)).1)).symm
    have f2 : q_i m0 114 ((1 : Int32).toInt.toNat) = _ := (((h.2.2 1 (by decide)).1.trans (hg.2 1 (by decide)).1)).symm
    have f3 : q_i m0 115 ((3 : Int32).toInt.toNat) = _ := (((h.2.2 3 (by decide)).2.trans (hg.2 3 (by decide)).2)).symm
    have f4 : q_i m0 115 ((1 : Int32).toInt.toNat) = _ := (((h.2.2 1 (by decide)).2.trans (hg.2 1 (by decide)).2)).symm
    simp only [f1, f2, f3, f4]
    exact r1
  · have eu : u = 3 := x_i32 (show u.toInt = (3 : Int32).toInt from hu)
    have et : t = 2 := x_i32 (show t.toInt = (2 : Int32).toInt from ht)
    subst eu et
    obtain ⟨n2, m2, h1⟩ := xp_C32 h.1.1 i k n
    have e := x_det r1 h1
    cases e
    refine ⟨c, _, ?_, r2, r3⟩
    have f1 : q_i m0 114 ((3 : Int32).toInt.toNat) = _ := (((h.2.2 3 (by decide)).1.trans (hg.2 3 (by decide)).1)).symm
    have f2 : q_i m0 114 ((2 : Int32).toInt.toNat) = _ := (((h.2.2 2 (by decide)).1.trans (hg.2 2 (by decide)).1)).symm
    have f3 : q_i m0 115 ((3 : Int32).toInt.toNat) = _ := (((h.2.2 3 (by decide)).2.trans (hg.2 3 (by decide)).2)).symm
    have f4 : q_i m0 115 ((2 : Int32).toInt.toNat) = _ := (((h.2.2 2 (by decide)).2.trans (hg.2 2 (by decide)).2)).symm
    simp only [f1, f2, f3, f4]
    exact r1
  · have eu : u = 3 := x_i32 (show u.toInt = (3 : Int32).toInt from hu)
    have et : t = 3 := x_i32 (show t.toInt = (3 : Int32).toInt from ht)
    subst eu et
    obtain ⟨n2, m2, h1⟩ := xp_C33 h.1.1 i k n
    have e := x_det r1 h1
    cases e
    refine ⟨c, _, ?_, r2, r3⟩
    have f1 : q_i m0 114 ((3 : Int32).toInt.toNat) = _ := (((h.2.2 3 (by decide)).1.trans (hg.2 3 (by decide)).1)).symm
    have f2 : q_i m0 114 ((3 : Int32).toInt.toNat) = _ := (((h.2.2 3 (by decide)).1.trans (hg.2 3 (by decide)).1)).symm
    have f3 : q_i m0 115 ((3 : Int32).toInt.toNat) = _ := (((h.2.2 3 (by decide)).2.trans (hg.2 3 (by decide)).2)).symm
    have f4 : q_i m0 115 ((3 : Int32).toInt.toNat) = _ := (((h.2.2 3 (by decide)).2.trans (hg.2 3 (by decide)).2)).symm
    simp only [f1, f2, f3, f4]
    exact r1
def kw_M0 : b_Con := (369, [.inr (.inl 93), .inl (false, (-2147483648), (-1)), .inl (false, (-2147483648), 2147483647), .inl (false, (-2147483648), 2147483647), .inl (false, (-2147483648), 2147483647), .inl (false, (-2147483648), 2147483647)], [(some (false, (-2), (-2)), [])], [], [])
set_option maxRecDepth 100000 in
theorem kw_M0_k : b_chk r_hk q_D kc_I r_fp 3000 kw_M0 [218, 294] [] []
   [] = true := by decide +kernel
theorem kw_M0_a : bc_ok q_D kc_I (r_F kK 0) kw_M0 := b_chk_ok (r_hk_ok kc_Iok kK1) kc_srt (r_bgF kc_Iok) kw_M0_k ka_nil
def kw_M1 : b_Con := (369, [.inr (.inl 93), .inl (false, 4, 2147483647), .inl (false, (-2147483648), 2147483647), .inl (false, (-2147483648), 2147483647), .inl (false, (-2147483648), 2147483647), .inl (false, (-2147483648), 2147483647)], [(some (false, (-2), (-2)), [])], [], [])
set_option maxRecDepth 100000 in
theorem kw_M1_k : b_chk r_hk q_D kc_I r_fp 3000 kw_M1 [218, 294] [] []
   [] = true := by decide +kernel
theorem kw_M1_a : bc_ok q_D kc_I (r_F kK 0) kw_M1 := b_chk_ok (r_hk_ok kc_Iok kK1) kc_srt (r_bgF kc_Iok) kw_M1_k ka_nil
def kw_M2 : b_Con := (369, [.inr (.inl 93), .inl (false, 0, 3), .inl (false, (-2147483648), 2147483647), .inl (false, (-2147483648), (-1)), .inl (false, (-2147483648), 2147483647), .inl (false, (-2147483648), 2147483647)], [(some (false, (-2), (-2)), [])], [], [])
set_option maxRecDepth 100000 in
theorem kw_M2_k : b_chk r_hk q_D kc_I r_fp 3000 kw_M2 [218, 294] [] []
   [] = true := by decide +kernel
theorem kw_M2_a : bc_ok q_D kc_I (r_F kK 0) kw_M2 := b_chk_ok (r_hk_ok kc_Iok kK1) kc_srt (r_bgF kc_Iok) kw_M2_k ka_nil
def kw_M3 : b_Con := (369, [.inr (.inl 93), .inl (false, 0, 3), .inl (false, (-2147483648), 2147483647), .inl (false, 4, 2147483647), .inl (false, (-2147483648), 2147483647), .inl (false, (-2147483648), 2147483647)], [(some (false, (-2), (-2)), [])], [], [])
set_option maxRecDepth 100000 in
theorem kw_M3_k : b_chk r_hk q_D kc_I r_fp 3000 kw_M3 [218, 294] [] []
   [] = true := by decide +kernel
theorem kw_M3_a : bc_ok q_D kc_I (r_F kK 0) kw_M3 := b_chk_ok (r_hk_ok kc_Iok kK1) kc_srt (r_bgF kc_Iok) kw_M3_k ka_nil
theorem xp_M00 {m : q_M} (hM : bi_M kc_I m) (i k n : Int32) : ∃ (c : Nat) (m1 : q_M), q_run q_D c q_m369 0 (lv_args 0 [.ref 93, .int 0, .int i, .int 0, .int k, .int n]) [] m = some (some (.int (if q_i m 114 0 = -1 ∨ q_i m 114 0 = -1 then Int32.ofInt (-6) else if q_i m 115 0 ≠ q_i m 115 0 then Int32.ofInt (-8) else if i.toInt < 0 ∨ k.toInt < 0 ∨ n.toInt < 0 ∨ q_i m 114 0 < i.toInt + n.toInt ∨ q_i m 114 0 < k.toInt + n.toInt then Int32.ofInt (-7) else Int32.ofInt 0)), m1) := by
  have hbs := x_pl_114_0 hM
  have hbt := x_pl_114_0 hM
  by_cases d0 : q_i m 114 0 = -1
  · rw [if_pos (Or.inl d0)]
    exact xp_M00a_p hM i k n d0
  rw [if_neg (by omega), if_neg (by simp)]
  by_cases fe : i.toInt < 0
  · rw [if_pos (by omega)]
    exact xp_M00e_p hM i k n (by omega) fe
  by_cases ff : k.toInt < 0
  · rw [if_pos (by omega)]
    exact xp_M00f_p hM i k n (by omega) ff
  by_cases fg : n.toInt < 0
  · rw [if_pos (by omega)]
    exact xp_M00g_p hM i k n (by omega) fg
  by_cases fh : q_i m 114 0 < i.toInt + n.toInt
  · rw [if_pos (by omega)]
    exact xp_M00h_p hM i k n (by omega) (by omega) (by omega) (by omega) fh
  by_cases fj : q_i m 114 0 < k.toInt + n.toInt
  · rw [if_pos (by omega)]
    exact xp_M00j_p hM i k n (by omega) (by omega) (by omega) (by omega) (by omega) fj
  · rw [if_neg (by omega)]
    exact xp_M00k_p hM i k n (by omega) (by omega) (by omega) (by omega) (by omega) (by omega)
theorem xp_M01 {m : q_M} (hM : bi_M kc_I m) (i k n : Int32) : ∃ (c : Nat) (m1 : q_M), q_run q_D c q_m369 0 (lv_args 0 [.ref 93, .int 0, .int i, .int 1, .int k, .int n]) [] m = some (some (.int (if q_i m 114 0 = -1 ∨ q_i m 114 1 = -1 then Int32.ofInt (-6) else if q_i m 115 0 ≠ q_i m 115 1 then Int32.ofInt (-8) else if i.toInt < 0 ∨ k.toInt < 0 ∨ n.toInt < 0 ∨ q_i m 114 0 < i.toInt + n.toInt ∨ q_i m 114 1 < k.toInt + n.toInt then Int32.ofInt (-7) else Int32.ofInt 0)), m1) := by
  have hbs := x_pl_114_0 hM
  have hbt := x_pl_114_1 hM
  by_cases d0 : q_i m 114 0 = -1
  · rw [if_pos (Or.inl d0)]
    exact xp_M01a_p hM i k n d0
  by_cases d1 : q_i m 114 1 = -1
  · rw [if_pos (Or.inr d1)]
    exact xp_M01b_p hM i k n (by omega) d1
  rw [if_neg (by omega)]
  by_cases d2 : q_i m 115 0 = q_i m 115 1
  rotate_left
  · rw [if_pos d2]
    by_cases d3 : q_i m 115 0 < q_i m 115 1
    · exact xp_M01c_p hM i k n (by omega) (by omega) d3
    · exact xp_M01d_p hM i k n (by omega) (by omega) (by omega)
  rw [if_neg (by simpa using d2)]
  by_cases fe : i.toInt < 0
  · rw [if_pos (by omega)]
    exact xp_M01e_p hM i k n (by omega) (by omega) d2 fe
  by_cases ff : k.toInt < 0
  · rw [if_pos (by omega)]
    exact xp_M01f_p hM i k n (by omega) (by omega) d2 ff
  by_cases fg : n.toInt < 0
  · rw [if_pos (by omega)]
    exact xp_M01g_p hM i k n (by omega) (by omega) d2 fg
  by_cases fh : q_i m 114 0 < i.toInt + n.toInt
  · rw [if_pos (by omega)]
    exact xp_M01h_p hM i k n (by omega) (by omega) d2 (by omega) (by omega) (by omega) fh
  by_cases fj : q_i m 114 1 < k.toInt + n.toInt
  · rw [if_pos (by omega)]
    exact xp_M01j_p hM i k n (by omega) (by omega) d2 (by omega) (by omega) (by omega) (by omega) fj
  · rw [if_neg (by omega)]
    exact xp_M01k_p hM i k n (by omega) (by omega) d2 (by omega) (by omega) (by omega) (by omega) (by omega)
theorem xp_M02 {m : q_M} (hM : bi_M kc_I m) (i k n : Int32) : ∃ (c : Nat) (m1 : q_M), q_run q_D c q_m369 0 (lv_args 0 [.ref 93, .int 0, .int i, .int 2, .int k, .int n]) [] m = some (some (.int (if q_i m 114 0 = -1 ∨ q_i m 114 2 = -1 then Int32.ofInt (-6) else if q_i m 115 0 ≠ q_i m 115 2 then Int32.ofInt (-8) else if i.toInt < 0 ∨ k.toInt < 0 ∨ n.toInt < 0 ∨ q_i m 114 0 < i.toInt + n.toInt ∨ q_i m 114 2 < k.toInt + n.toInt then Int32.ofInt (-7) else Int32.ofInt 0)), m1) := by
  have hbs := x_pl_114_0 hM
  have hbt := x_pl_114_2 hM
  by_cases d0 : q_i m 114 0 = -1
  · rw [if_pos (Or.inl d0)]
    exact xp_M02a_p hM i k n d0
  by_cases d1 : q_i m 114 2 = -1
  · rw [if_pos (Or.inr d1)]
    exact xp_M02b_p hM i k n (by omega) d1
  rw [if_neg (by omega)]
  by_cases d2 : q_i m 115 0 = q_i m 115 2
  rotate_left
  · rw [if_pos d2]
    by_cases d3 : q_i m 115 0 < q_i m 115 2
    · exact xp_M02c_p hM i k n (by omega) (by omega) d3
    · exact xp_M02d_p hM i k n (by omega) (by omega) (by omega)
  rw [if_neg (by simpa using d2)]
  by_cases fe : i.toInt < 0
  · rw [if_pos (by omega)]
    exact xp_M02e_p hM i k n (by omega) (by omega) d2 fe
  by_cases ff : k.toInt < 0
  · rw [if_pos (by omega)]
    exact xp_M02f_p hM i k n (by omega) (by omega) d2 ff
  by_cases fg : n.toInt < 0
  · rw [if_pos (by omega)]
    exact xp_M02g_p hM i k n (by omega) (by omega) d2 fg
  by_cases fh : q_i m 114 0 < i.toInt + n.toInt
  · rw [if_pos (by omega)]
    exact xp_M02h_p hM i k n (by omega) (by omega) d2 (by omega) (by omega) (by omega) fh
  by_cases fj : q_i m 114 2 < k.toInt + n.toInt
  · rw [if_pos (by omega)]
    exact xp_M02j_p hM i k n (by omega) (by omega) d2 (by omega) (by omega) (by omega) (by omega) fj
  · rw [if_neg (by omega)]
    exact xp_M02k_p hM i k n (by omega) (by omega) d2 (by omega) (by omega) (by omega) (by omega) (by omega)
theorem xp_M03 {m : q_M} (hM : bi_M kc_I m) (i k n : Int32) : ∃ (c : Nat) (m1 : q_M), q_run q_D c q_m369 0 (lv_args 0 [.ref 93, .int 0, .int i, .int 3, .int k, .int n]) [] m = some (some (.int (if q_i m 114 0 = -1 ∨ q_i m 114 3 = -1 then Int32.ofInt (-6) else if q_i m 115 0 ≠ q_i m 115 3 then Int32.ofInt (-8) else if i.toInt < 0 ∨ k.toInt < 0 ∨ n.toInt < 0 ∨ q_i m 114 0 < i.toInt + n.toInt ∨ q_i m 114 3 < k.toInt + n.toInt then Int32.ofInt (-7) else Int32.ofInt 0)), m1) := by
  have hbs := x_pl_114_0 hM
  have hbt := x_pl_114_3 hM
  by_cases d0 : q_i m 114 0 = -1
  · rw [if_pos (Or.inl d0)]
    exact xp_M03a_p hM i k n d0
  by_cases d1 : q_i m 114 3 = -1
  · rw [if_pos (Or.inr d1)]
    exact xp_M03b_p hM i k n (by omega) d1
  rw [if_neg (by omega)]
  by_cases d2 : q_i m 115 0 = q_i m 115 3
  rotate_left
  · rw [if_pos d2]
    by_cases d3 : q_i m 115 0 < q_i m 115 3
    · exact xp_M03c_p hM i k n (by omega) (by omega) d3
    · exact xp_M03d_p hM i k n (by omega) (by omega) (by omega)
  rw [if_neg (by simpa using d2)]
  by_cases fe : i.toInt < 0
  · rw [if_pos (by omega)]
    exact xp_M03e_p hM i k n (by omega) (by omega) d2 fe
  by_cases ff : k.toInt < 0
  · rw [if_pos (by omega)]
    exact xp_M03f_p hM i k n (by omega) (by omega) d2 ff
  by_cases fg : n.toInt < 0
  · rw [if_pos (by omega)]
    exact xp_M03g_p hM i k n (by omega) (by omega) d2 fg
  by_cases fh : q_i m 114 0 < i.toInt + n.toInt
  · rw [if_pos (by omega)]
    exact xp_M03h_p hM i k n (by omega) (by omega) d2 (by omega) (by omega) (by omega) fh
  by_cases fj : q_i m 114 3 < k.toInt + n.toInt
  · rw [if_pos (by omega)]
    exact xp_M03j_p hM i k n (by omega) (by omega) d2 (by omega) (by omega) (by omega) (by omega) fj
  · rw [if_neg (by omega)]
    exact xp_M03k_p hM i k n (by omega) (by omega) d2 (by omega) (by omega) (by omega) (by omega) (by omega)
theorem xp_M10 {m : q_M} (hM : bi_M kc_I m) (i k n : Int32) : ∃ (c : Nat) (m1 : q_M), q_run q_D c q_m369 0 (lv_args 0 [.ref 93, .int 1, .int i, .int 0, .int k, .int n]) [] m = some (some (.int (if q_i m 114 1 = -1 ∨ q_i m 114 0 = -1 then Int32.ofInt (-6) else if q_i m 115 1 ≠ q_i m 115 0 then Int32.ofInt (-8) else if i.toInt < 0 ∨ k.toInt < 0 ∨ n.toInt < 0 ∨ q_i m 114 1 < i.toInt + n.toInt ∨ q_i m 114 0 < k.toInt + n.toInt then Int32.ofInt (-7) else Int32.ofInt 0)), m1) := by
  have hbs := x_pl_114_1 hM
  have hbt := x_pl_114_0 hM
  by_cases d0 : q_i m 114 1 = -1
  · rw [if_pos (Or.inl d0)]
    exact xp_M10a_p hM i k n d0
  by_cases d1 : q_i m 114 0 = -1
  · rw [if_pos (Or.inr d1)]
    exact xp_M10b_p hM i k n (by omega) d1
  rw [if_neg (by omega)]
  by_cases d2 : q_i m 115 1 = q_i m 115 0
  rotate_left
  · rw [if_pos d2]
    by_cases d3 : q_i m 115 1 < q_i m 115 0
    · exact xp_M10c_p hM i k n (by omega) (by omega) d3
    · exact xp_M10d_p hM i k n (by omega) (by omega) (by omega)
  rw [if_neg (by simpa using d2)]
  by_cases fe : i.toInt < 0
  · rw [if_pos (by omega)]
    exact xp_M10e_p hM i k n (by omega) (by omega) d2 fe
  by_cases ff : k.toInt < 0
  · rw [if_pos (by omega)]
    exact xp_M10f_p hM i k n (by omega) (by omega) d2 ff
  by_cases fg : n.toInt < 0
  · rw [if_pos (by omega)]
    exact xp_M10g_p hM i k n (by omega) (by omega) d2 fg
  by_cases fh : q_i m 114 1 < i.toInt + n.toInt
  · rw [if_pos (by omega)]
    exact xp_M10h_p hM i k n (by omega) (by omega) d2 (by omega) (by omega) (by omega) fh
  by_cases fj : q_i m 114 0 < k.toInt + n.toInt
  · rw [if_pos (by omega)]
    exact xp_M10j_p hM i k n (by omega) (by omega) d2 (by omega) (by omega) (by omega) (by omega) fj
  · rw [if_neg (by omega)]
    exact xp_M10k_p hM i k n (by omega) (by omega) d2 (by omega) (by omega) (by omega) (by omega) (by omega)
theorem xp_M11 {m : q_M} (hM : bi_M kc_I m) (i k n : Int32) : ∃ (c : Nat) (m1 : q_M), q_run q_D c q_m369 0 (lv_args 0 [.ref 93, .int 1, .int i, .int 1, .int k, .int n]) [] m = some (some (.int (if q_i m 114 1 = -1 ∨ q_i m 114 1 = -1 then Int32.ofInt (-6) else if q_i m 115 1 ≠ q_i m 115 1 then Int32.ofInt (-8) else if i.toInt < 0 ∨ k.toInt < 0 ∨ n.toInt < 0 ∨ q_i m 114 1 < i.toInt + n.toInt ∨ q_i m 114 1 < k.toInt + n.toInt then Int32.ofInt (-7) else Int32.ofInt 0)), m1) := by
  have hbs := x_pl_114_1 hM
  have hbt := x_pl_114_1 hM
  by_cases d0 : q_i m 114 1 = -1
  · rw [if_pos (Or.inl d0)]
    exact xp_M11a_p hM i k n d0
  rw [if_neg (by omega), if_neg (by simp)]
  by_cases fe : i.toInt < 0
  · rw [if_pos (by omega)]
    exact xp_M11e_p hM i k n (by omega) fe
  by_cases ff : k.toInt < 0
  · rw [if_pos (by omega)]
    exact xp_M11f_p hM i k n (by omega) ff
  by_cases fg : n.toInt < 0
  · rw [if_pos (by omega)]
    exact xp_M11g_p hM i k n (by omega) fg
  by_cases fh : q_i m 114 1 < i.toInt + n.toInt
  · rw [if_pos (by omega)]
    exact xp_M11h_p hM i k n (by omega) (by omega) (by omega) (by omega) fh
  by_cases fj : q_i m 114 1 < k.toInt + n.toInt
  · rw [if_pos (by omega)]
    exact xp_M11j_p hM i k n (by omega) (by omega) (by omega) (by omega) (by omega) fj
  · rw [if_neg (by omega)]
    exact xp_M11k_p hM i k n (by omega) (by omega) (by omega) (by omega) (by omega) (by omega)
theorem xp_M12 {m : q_M} (hM : bi_M kc_I m) (i k n : Int32) : ∃ (c : Nat) (m1 : q_M), q_run q_D c q_m369 0 (lv_args 0 [.ref 93, .int 1, .int i, .int 2, .int k, .int n]) [] m = some (some (.int (if q_i m 114 1 = -1 ∨ q_i m 114 2 = -1 then Int32.ofInt (-6) else if q_i m 115 1 ≠ q_i m 115 2 then Int32.ofInt (-8) else if i.toInt < 0 ∨ k.toInt < 0 ∨ n.toInt < 0 ∨ q_i m 114 1 < i.toInt + n.toInt ∨ q_i m 114 2 < k.toInt + n.toInt then Int32.ofInt (-7) else Int32.ofInt 0)), m1) := by
  have hbs := x_pl_114_1 hM
  have hbt := x_pl_114_2 hM
  by_cases d0 : q_i m 114 1 = -1
  · rw [if_pos (Or.inl d0)]
    exact xp_M12a_p hM i k n d0
  by_cases d1 : q_i m 114 2 = -1
  · rw [if_pos (Or.inr d1)]
    exact xp_M12b_p hM i k n (by omega) d1
  rw [if_neg (by omega)]
  by_cases d2 : q_i m 115 1 = q_i m 115 2
  rotate_left
  · rw [if_pos d2]
    by_cases d3 : q_i m 115 1 < q_i m 115 2
    · exact xp_M12c_p hM i k n (by omega) (by omega) d3
    · exact xp_M12d_p hM i k n (by omega) (by omega) (by omega)
  rw [if_neg (by simpa using d2)]
  by_cases fe : i.toInt < 0
  · rw [if_pos (by omega)]
    exact xp_M12e_p hM i k n (by omega) (by omega) d2 fe
  by_cases ff : k.toInt < 0
  · rw [if_pos (by omega)]
    exact xp_M12f_p hM i k n (by omega) (by omega) d2 ff
  by_cases fg : n.toInt < 0
  · rw [if_pos (by omega)]
    exact xp_M12g_p hM i k n (by omega) (by omega) d2 fg
  by_cases fh : q_i m 114 1 < i.toInt + n.toInt
  · rw [if_pos (by omega)]
    exact xp_M12h_p hM i k n (by omega) (by omega) d2 (by omega) (by omega) (by omega) fh
  by_cases fj : q_i m 114 2 < k.toInt + n.toInt
  · rw [if_pos (by omega)]
    exact xp_M12j_p hM i k n (by omega) (by omega) d2 (by omega) (by omega) (by omega) (by omega) fj
  · rw [if_neg (by omega)]
    exact xp_M12k_p hM i k n (by omega) (by omega) d2 (by omega) (by omega) (by omega) (by omega) (by omega)
theorem xp_M13 {m : q_M} (hM : bi_M kc_I m) (i k n : Int32) : ∃ (c : Nat) (m1 : q_M), q_run q_D c q_m369 0 (lv_args 0 [.ref 93, .int 1, .int i, .int 3, .int k, .int n]) [] m = some (some (.int (if q_i m 114 1 = -1 ∨ q_i m 114 3 = -1 then Int32.ofInt (-6) else if q_i m 115 1 ≠ q_i m 115 3 then Int32.ofInt (-8) else if i.toInt < 0 ∨ k.toInt < 0 ∨ n.toInt < 0 ∨ q_i m 114 1 < i.toInt + n.toInt ∨ q_i m 114 3 < k.toInt + n.toInt then Int32.ofInt (-7) else Int32.ofInt 0)), m1) := by
  have hbs := x_pl_114_1 hM
  have hbt := x_pl_114_3 hM
  by_cases d0 : q_i m 114 1 = -1
  · rw [if_pos (Or.inl d0)]
    exact xp_M13a_p hM i k n d0
  by_cases d1 : q_i m 114 3 = -1
  · rw [if_pos (Or.inr d1)]
    exact xp_M13b_p hM i k n (by omega) d1
  rw [if_neg (by omega)]
  by_cases d2 : q_i m 115 1 = q_i m 115 3
  rotate_left
  · rw [if_pos d2]
    by_cases d3 : q_i m 115 1 < q_i m 115 3
    · exact xp_M13c_p hM i k n (by omega) (by omega) d3
    · exact xp_M13d_p hM i k n (by omega) (by omega) (by omega)
  rw [if_neg (by simpa using d2)]
  by_cases fe : i.toInt < 0
  · rw [if_pos (by omega)]
    exact xp_M13e_p hM i k n (by omega) (by omega) d2 fe
  by_cases ff : k.toInt < 0
  · rw [if_pos (by omega)]
    exact xp_M13f_p hM i k n (by omega) (by omega) d2 ff
  by_cases fg : n.toInt < 0
  · rw [if_pos (by omega)]
    exact xp_M13g_p hM i k n (by omega) (by omega) d2 fg
  by_cases fh : q_i m 114 1 < i.toInt + n.toInt
  · rw [if_pos (by omega)]
    exact xp_M13h_p hM i k n (by omega) (by omega) d2 (by omega) (by omega) (by omega) fh
  by_cases fj : q_i m 114 3 < k.toInt + n.toInt
  · rw [if_pos (by omega)]
    exact xp_M13j_p hM i k n (by omega) (by omega) d2 (by omega) (by omega) (by omega) (by omega) fj
  · rw [if_neg (by omega)]
    exact xp_M13k_p hM i k n (by omega) (by omega) d2 (by omega) (by omega) (by omega) (by omega) (by omega)
theorem xp_M20 {m : q_M} (hM : bi_M kc_I m) (i k n : Int32) : ∃ (c : Nat) (m1 : q_M), q_run q_D c q_m369 0 (lv_args 0 [.ref 93, .int 2, .int i, .int 0, .int k, .int n]) [] m = some (some (.int (if q_i m 114 2 = -1 ∨ q_i m 114 0 = -1 then Int32.ofInt (-6) else if q_i m 115 2 ≠ q_i m 115 0 then Int32.ofInt (-8) else if i.toInt < 0 ∨ k.toInt < 0 ∨ n.toInt < 0 ∨ q_i m 114 2 < i.toInt + n.toInt ∨ q_i m 114 0 < k.toInt + n.toInt then Int32.ofInt (-7) else Int32.ofInt 0)), m1) := by
  have hbs := x_pl_114_2 hM
  have hbt := x_pl_114_0 hM
  by_cases d0 : q_i m 114 2 = -1
  · rw [if_pos (Or.inl d0)]
    exact xp_M20a_p hM i k n d0
  by_cases d1 : q_i m 114 0 = -1
  · rw [if_pos (Or.inr d1)]
    exact xp_M20b_p hM i k n (by omega) d1
  rw [if_neg (by omega)]
  by_cases d2 : q_i m 115 2 = q_i m 115 0
  rotate_left
  · rw [if_pos d2]
    by_cases d3 : q_i m 115 2 < q_i m 115 0
    · exact xp_M20c_p hM i k n (by omega) (by omega) d3
    · exact xp_M20d_p hM i k n (by omega) (by omega) (by omega)
  rw [if_neg (by simpa using d2)]
  by_cases fe : i.toInt < 0
  · rw [if_pos (by omega)]
    exact xp_M20e_p hM i k n (by omega) (by omega) d2 fe
  by_cases ff : k.toInt < 0
  · rw [if_pos (by omega)]
    exact xp_M20f_p hM i k n (by omega) (by omega) d2 ff
  by_cases fg : n.toInt < 0
  · rw [if_pos (by omega)]
    exact xp_M20g_p hM i k n (by omega) (by omega) d2 fg
  by_cases fh : q_i m 114 2 < i.toInt + n.toInt
  · rw [if_pos (by omega)]
    exact xp_M20h_p hM i k n (by omega) (by omega) d2 (by omega) (by omega) (by omega) fh
  by_cases fj : q_i m 114 0 < k.toInt + n.toInt
  · rw [if_pos (by omega)]
    exact xp_M20j_p hM i k n (by omega) (by omega) d2 (by omega) (by omega) (by omega) (by omega) fj
  · rw [if_neg (by omega)]
    exact xp_M20k_p hM i k n (by omega) (by omega) d2 (by omega) (by omega) (by omega) (by omega) (by omega)
theorem xp_M21 {m : q_M} (hM : bi_M kc_I m) (i k n : Int32) : ∃ (c : Nat) (m1 : q_M), q_run q_D c q_m369 0 (lv_args 0 [.ref 93, .int 2, .int i, .int 1, .int k, .int n]) [] m = some (some (.int (if q_i m 114 2 = -1 ∨ q_i m 114 1 = -1 then Int32.ofInt (-6) else if q_i m 115 2 ≠ q_i m 115 1 then Int32.ofInt (-8) else if i.toInt < 0 ∨ k.toInt < 0 ∨ n.toInt < 0 ∨ q_i m 114 2 < i.toInt + n.toInt ∨ q_i m 114 1 < k.toInt + n.toInt then Int32.ofInt (-7) else Int32.ofInt 0)), m1) := by
  have hbs := x_pl_114_2 hM
  have hbt := x_pl_114_1 hM
  by_cases d0 : q_i m 114 2 = -1
  · rw [if_pos (Or.inl d0)]
    exact xp_M21a_p hM i k n d0
  by_cases d1 : q_i m 114 1 = -1
  · rw [if_pos (Or.inr d1)]
    exact xp_M21b_p hM i k n (by omega) d1
  rw [if_neg (by omega)]
  by_cases d2 : q_i m 115 2 = q_i m 115 1
  rotate_left
  · rw [if_pos d2]
    by_cases d3 : q_i m 115 2 < q_i m 115 1
    · exact xp_M21c_p hM i k n (by omega) (by omega) d3
    · exact xp_M21d_p hM i k n (by omega) (by omega) (by omega)
  rw [if_neg (by simpa using d2)]
  by_cases fe : i.toInt < 0
  · rw [if_pos (by omega)]
    exact xp_M21e_p hM i k n (by omega) (by omega) d2 fe
  by_cases ff : k.toInt < 0
  · rw [if_pos (by omega)]
    exact xp_M21f_p hM i k n (by omega) (by omega) d2 ff
  by_cases fg : n.toInt < 0
  · rw [if_pos (by omega)]
    exact xp_M21g_p hM i k n (by omega) (by omega) d2 fg
  by_cases fh : q_i m 114 2 < i.toInt + n.toInt
  · rw [if_pos (by omega)]
    exact xp_M21h_p hM i k n (by omega) (by omega) d2 (by omega) (by omega) (by omega) fh
  by_cases fj : q_i m 114 1 < k.toInt + n.toInt
  · rw [if_pos (by omega)]
    exact xp_M21j_p hM i k n (by omega) (by omega) d2 (by omega) (by omega) (by omega) (by omega) fj
  · rw [if_neg (by omega)]
    exact xp_M21k_p hM i k n (by omega) (by omega) d2 (by omega) (by omega) (by omega) (by omega) (by omega)
theorem xp_M22 {m : q_M} (hM : bi_M kc_I m) (i k n : Int32) : ∃ (c : Nat) (m1 : q_M), q_run q_D c q_m369 0 (lv_args 0 [.ref 93, .int 2, .int i, .int 2, .int k, .int n]) [] m = some (some (.int (if q_i m 114 2 = -1 ∨ q_i m 114 2 = -1 then Int32.ofInt (-6) else if q_i m 115 2 ≠ q_i m 115 2 then Int32.ofInt (-8) else if i.toInt < 0 ∨ k.toInt < 0 ∨ n.toInt < 0 ∨ q_i m 114 2 < i.toInt + n.toInt ∨ q_i m 114 2 < k.toInt + n.toInt then Int32.ofInt (-7) else Int32.ofInt 0)), m1) := by
  have hbs := x_pl_114_2 hM
  have hbt := x_pl_114_2 hM
  by_cases d0 : q_i m 114 2 = -1
  · rw [if_pos (Or.inl d0)]
    exact xp_M22a_p hM i k n d0
  rw [if_neg (by omega), if_neg (by simp)]
  by_cases fe : i.toInt < 0
  · rw [if_pos (by omega)]
    exact xp_M22e_p hM i k n (by omega) fe
  by_cases ff : k.toInt < 0
  · rw [if_pos (by omega)]
    exact xp_M22f_p hM i k n (by omega) ff
  by_cases fg : n.toInt < 0
  · rw [if_pos (by omega)]
    exact xp_M22g_p hM i k n (by omega) fg
  by_cases fh : q_i m 114 2 < i.toInt + n.toInt
  · rw [if_pos (by omega)]
    exact xp_M22h_p hM i k n (by omega) (by omega) (by omega) (by omega) fh
  by_cases fj : q_i m 114 2 < k.toInt + n.toInt
  · rw [if_pos (by omega)]
    exact xp_M22j_p hM i k n (by omega) (by omega) (by omega) (by omega) (by omega) fj
  · rw [if_neg (by omega)]
    exact xp_M22k_p hM i k n (by omega) (by omega) (by omega) (by omega) (by omega) (by omega)
theorem xp_M23 {m : q_M} (hM : bi_M kc_I m) (i k n : Int32) : ∃ (c : Nat) (m1 : q_M), q_run q_D c q_m369 0 (lv_args 0 [.ref 93, .int 2, .int i, .int 3, .int k, .int n]) [] m = some (some (.int (if q_i m 114 2 = -1 ∨ q_i m 114 3 = -1 then Int32.ofInt (-6) else if q_i m 115 2 ≠ q_i m 115 3 then Int32.ofInt (-8) else if i.toInt < 0 ∨ k.toInt < 0 ∨ n.toInt < 0 ∨ q_i m 114 2 < i.toInt + n.toInt ∨ q_i m 114 3 < k.toInt + n.toInt then Int32.ofInt (-7) else Int32.ofInt 0)), m1) := by
  have hbs := x_pl_114_2 hM
  have hbt := x_pl_114_3 hM
  by_cases d0 : q_i m 114 2 = -1
  · rw [if_pos (Or.inl d0)]
    exact xp_M23a_p hM i k n d0
  by_cases d1 : q_i m 114 3 = -1
  · rw [if_pos (Or.inr d1)]
    exact xp_M23b_p hM i k n (by omega) d1
  rw [if_neg (by omega)]
  by_cases d2 : q_i m 115 2 = q_i m 115 3
  rotate_left
  · rw [if_pos d2]
    by_cases d3 : q_i m 115 2 < q_i m 115 3
    · exact xp_M23c_p hM i k n (by omega) (by omega) d3
    · exact xp_M23d_p hM i k n (by omega) (by omega) (by omega)
  rw [if_neg (by simpa using d2)]
  by_cases fe : i.toInt < 0
  · rw [if_pos (by omega)]
    exact xp_M23e_p hM i k n (by omega) (by omega) d2 fe
  by_cases ff : k.toInt < 0
  · rw [if_pos (by omega)]
    exact xp_M23f_p hM i k n (by omega) (by omega) d2 ff
  by_cases fg : n.toInt < 0
  · rw [if_pos (by omega)]
    exact xp_M23g_p hM i k n (by omega) (by omega) d2 fg
  by_cases fh : q_i m 114 2 < i.toInt + n.toInt
  · rw [if_pos (by omega)]
    exact xp_M23h_p hM i k n (by omega) (by omega) d2 (by omega) (by omega) (by omega) fh
  by_cases fj : q_i m 114 3 < k.toInt + n.toInt
  · rw [if_pos (by omega)]
    exact xp_M23j_p hM i k n (by omega) (by omega) d2 (by omega) (by omega) (by omega) (by omega) fj
  · rw [if_neg (by omega)]
    exact xp_M23k_p hM i k n (by omega) (by omega) d2 (by omega) (by omega) (by omega) (by omega) (by omega)
theorem xp_M30 {m : q_M} (hM : bi_M kc_I m) (i k n : Int32) : ∃ (c : Nat) (m1 : q_M), q_run q_D c q_m369 0 (lv_args 0 [.ref 93, .int 3, .int i, .int 0, .int k, .int n]) [] m = some (some (.int (if q_i m 114 3 = -1 ∨ q_i m 114 0 = -1 then Int32.ofInt (-6) else if q_i m 115 3 ≠ q_i m 115 0 then Int32.ofInt (-8) else if i.toInt < 0 ∨ k.toInt < 0 ∨ n.toInt < 0 ∨ q_i m 114 3 < i.toInt + n.toInt ∨ q_i m 114 0 < k.toInt + n.toInt then Int32.ofInt (-7) else Int32.ofInt 0)), m1) := by
  have hbs := x_pl_114_3 hM
  have hbt := x_pl_114_0 hM
  by_cases d0 : q_i m 114 3 = -1
  · rw [if_pos (Or.inl d0)]
    exact xp_M30a_p hM i k n d0
  by_cases d1 : q_i m 114 0 = -1
  · rw [if_pos (Or.inr d1)]
    exact xp_M30b_p hM i k n (by omega) d1
  rw [if_neg (by omega)]
  by_cases d2 : q_i m 115 3 = q_i m 115 0
  rotate_left
  · rw [if_pos d2]
    by_cases d3 : q_i m 115 3 < q_i m 115 0
    · exact xp_M30c_p hM i k n (by omega) (by omega) d3
    · exact xp_M30d_p hM i k n (by omega) (by omega) (by omega)
  rw [if_neg (by simpa using d2)]
  by_cases fe : i.toInt < 0
  · rw [if_pos (by omega)]
    exact xp_M30e_p hM i k n (by omega) (by omega) d2 fe
  by_cases ff : k.toInt < 0
  · rw [if_pos (by omega)]
    exact xp_M30f_p hM i k n (by omega) (by omega) d2 ff
  by_cases fg : n.toInt < 0
  · rw [if_pos (by omega)]
    exact xp_M30g_p hM i k n (by omega) (by omega) d2 fg
  by_cases fh : q_i m 114 3 < i.toInt + n.toInt
  · rw [if_pos (by omega)]
    exact xp_M30h_p hM i k n (by omega) (by omega) d2 (by omega) (by omega) (by omega) fh
  by_cases fj : q_i m 114 0 < k.toInt + n.toInt
  · rw [if_pos (by omega)]
    exact xp_M30j_p hM i k n (by omega) (by omega) d2 (by omega) (by omega) (by omega) (by omega) fj
  · rw [if_neg (by omega)]
    exact xp_M30k_p hM i k n (by omega) (by omega) d2 (by omega) (by omega) (by omega) (by omega) (by omega)
theorem xp_M31 {m : q_M} (hM : bi_M kc_I m) (i k n : Int32) : ∃ (c : Nat) (m1 : q_M), q_run q_D c q_m369 0 (lv_args 0 [.ref 93, .int 3, .int i, .int 1, .int k, .int n]) [] m = some (some (.int (if q_i m 114 3 = -1 ∨ q_i m 114 1 = -1 then Int32.ofInt (-6) else if q_i m 115 3 ≠ q_i m 115 1 then Int32.ofInt (-8) else if i.toInt < 0 ∨ k.toInt < 0 ∨ n.toInt < 0 ∨ q_i m 114 3 < i.toInt + n.toInt ∨ q_i m 114 1 < k.toInt + n.toInt then Int32.ofInt (-7) else Int32.ofInt 0)), m1) := by
  have hbs := x_pl_114_3 hM
  have hbt := x_pl_114_1 hM
  by_cases d0 : q_i m 114 3 = -1
  · rw [if_pos (Or.inl d0)]
    exact xp_M31a_p hM i k n d0
  by_cases d1 : q_i m 114 1 = -1
  · rw [if_pos (Or.inr d1)]
    exact xp_M31b_p hM i k n (by omega) d1
  rw [if_neg (by omega)]
  by_cases d2 : q_i m 115 3 = q_i m 115 1
  rotate_left
  · rw [if_pos d2]
    by_cases d3 : q_i m 115 3 < q_i m 115 1
    · exact xp_M31c_p hM i k n (by omega) (by omega) d3
    · exact xp_M31d_p hM i k n (by omega) (by omega) (by omega)
  rw [if_neg (by simpa using d2)]
  by_cases fe : i.toInt < 0
  · rw [if_pos (by omega)]
    exact xp_M31e_p hM i k n (by omega) (by omega) d2 fe
  by_cases ff : k.toInt < 0
  · rw [if_pos (by omega)]
    exact xp_M31f_p hM i k n (by omega) (by omega) d2 ff
  by_cases fg : n.toInt < 0
  · rw [if_pos (by omega)]
    exact xp_M31g_p hM i k n (by omega) (by omega) d2 fg
  by_cases fh : q_i m 114 3 < i.toInt + n.toInt
  · rw [if_pos (by omega)]
    exact xp_M31h_p hM i k n (by omega) (by omega) d2 (by omega) (by omega) (by omega) fh
  by_cases fj : q_i m 114 1 < k.toInt + n.toInt
  · rw [if_pos (by omega)]
    exact xp_M31j_p hM i k n (by omega) (by omega) d2 (by omega) (by omega) (by omega) (by omega) fj
  · rw [if_neg (by omega)]
    exact xp_M31k_p hM i k n (by omega) (by omega) d2 (by omega) (by omega) (by omega) (by omega) (by omega)
theorem xp_M32 {m : q_M} (hM : bi_M kc_I m) (i k n : Int32) : ∃ (c : Nat) (m1 : q_M), q_run q_D c q_m369 0 (lv_args 0 [.ref 93, .int 3, .int i, .int 2, .int k, .int n]) [] m = some (some (.int (if q_i m 114 3 = -1 ∨ q_i m 114 2 = -1 then Int32.ofInt (-6) else if q_i m 115 3 ≠ q_i m 115 2 then Int32.ofInt (-8) else if i.toInt < 0 ∨ k.toInt < 0 ∨ n.toInt < 0 ∨ q_i m 114 3 < i.toInt + n.toInt ∨ q_i m 114 2 < k.toInt + n.toInt then Int32.ofInt (-7) else Int32.ofInt 0)), m1) := by
  have hbs := x_pl_114_3 hM
  have hbt := x_pl_114_2 hM
  by_cases d0 : q_i m 114 3 = -1
  · rw [if_pos (Or.inl d0)]
    exact xp_M32a_p hM i k n d0
  by_cases d1 : q_i m 114 2 = -1
  · rw [if_pos (Or.inr d1)]
    exact xp_M32b_p hM i k n (by omega) d1
  rw [if_neg (by omega)]
  by_cases d2 : q_i m 115 3 = q_i m 115 2
  rotate_left
  · rw [if_pos d2]
    by_cases d3 : q_i m 115 3 < q_i m 115 2
    · exact xp_M32c_p hM i k n (by omega) (by omega) d3
    · exact xp_M32d_p hM i k n (by omega) (by omega) (by omega)
  rw [if_neg (by simpa using d2)]
  by_cases fe : i.toInt < 0
  · rw [if_pos (by omega)]
    exact xp_M32e_p hM i k n (by omega) (by omega) d2 fe
  by_cases ff : k.toInt < 0
  · rw [if_pos (by omega)]
    exact xp_M32f_p hM i k n (by omega) (by omega) d2 ff
  by_cases fg : n.toInt < 0
  · rw [if_pos (by omega)]
    exact xp_M32g_p hM i k n (by omega) (by omega) d2 fg
  by_cases fh : q_i m 114 3 < i.toInt + n.toInt
  · rw [if_pos (by omega)]
    exact xp_M32h_p hM i k n (by omega) (by omega) d2 (by omega) (by omega) (by omega) fh
  by_cases fj : q_i m 114 2 < k.toInt + n.toInt
  · rw [if_pos (by omega)]
    exact xp_M32j_p hM i k n (by omega) (by omega) d2 (by omega) (by omega) (by omega) (by omega) fj
  · rw [if_neg (by omega)]
    exact xp_M32k_p hM i k n (by omega) (by omega) d2 (by omega) (by omega) (by omega) (by omega) (by omega)
theorem xp_M33 {m : q_M} (hM : bi_M kc_I m) (i k n : Int32) : ∃ (c : Nat) (m1 : q_M), q_run q_D c q_m369 0 (lv_args 0 [.ref 93, .int 3, .int i, .int 3, .int k, .int n]) [] m = some (some (.int (if q_i m 114 3 = -1 ∨ q_i m 114 3 = -1 then Int32.ofInt (-6) else if q_i m 115 3 ≠ q_i m 115 3 then Int32.ofInt (-8) else if i.toInt < 0 ∨ k.toInt < 0 ∨ n.toInt < 0 ∨ q_i m 114 3 < i.toInt + n.toInt ∨ q_i m 114 3 < k.toInt + n.toInt then Int32.ofInt (-7) else Int32.ofInt 0)), m1) := by
  have hbs := x_pl_114_3 hM
  have hbt := x_pl_114_3 hM
  by_cases d0 : q_i m 114 3 = -1
  · rw [if_pos (Or.inl d0)]
    exact xp_M33a_p hM i k n d0
  rw [if_neg (by omega), if_neg (by simp)]
  by_cases fe : i.toInt < 0
  · rw [if_pos (by omega)]
    exact xp_M33e_p hM i k n (by omega) fe
  by_cases ff : k.toInt < 0
  · rw [if_pos (by omega)]
    exact xp_M33f_p hM i k n (by omega) ff
  by_cases fg : n.toInt < 0
  · rw [if_pos (by omega)]
    exact xp_M33g_p hM i k n (by omega) fg
  by_cases fh : q_i m 114 3 < i.toInt + n.toInt
  · rw [if_pos (by omega)]
    exact xp_M33h_p hM i k n (by omega) (by omega) (by omega) (by omega) fh
  by_cases fj : q_i m 114 3 < k.toInt + n.toInt
  · rw [if_pos (by omega)]
    exact xp_M33j_p hM i k n (by omega) (by omega) (by omega) (by omega) (by omega) fj
  · rw [if_neg (by omega)]
    exact xp_M33k_p hM i k n (by omega) (by omega) (by omega) (by omega) (by omega) (by omega)
theorem x_paM {m0 m : q_M} (h : x_J m) (hg : x_sg m0 m) (u i t k n : Int32) : ∃ (c : Nat) (m1 : q_M), q_run q_D c q_m369 0 (lv_args 0 [.ref 93, .int u, .int i, .int t, .int k, .int n]) [] m = some (some (.int (x_pv m0 u i t k n)), m1) ∧ l_J m1 ∧ q_same [(116, 0, 239), (117, 0, 59)] m m1 := by
  have u1 := Int32.le_toInt u
  have u2 := Int32.toInt_lt u
  have i1 := Int32.le_toInt i
  have i2 := Int32.toInt_lt i
  have t1 := Int32.le_toInt t
  have t2 := Int32.toInt_lt t
  have k1 := Int32.le_toInt k
  have k2 := Int32.toInt_lt k
  have n1 := Int32.le_toInt n
  have n2 := Int32.toInt_lt n
  have hM : (q_gM q_D)[369]? = some q_m369 := rfl
  obtain ⟨c, r, m1, r1, r2, r3, -⟩ := l_run1 (ka_462 0) (by decide +kernel) hM (ys := [.ref 93, .int u, .int i, .int t, .int k, .int n]) (zs := [u.toInt, i.toInt, t.toInt, k.toInt, n.toInt]) ⟨rfl, ⟨u, rfl, rfl⟩, by omega, by omega, ⟨i, rfl, rfl⟩, by omega, by omega, ⟨t, rfl, rfl⟩, by omega, by omega, ⟨k, rfl, rfl⟩, by omega, by omega, ⟨n, rfl, rfl⟩, by omega, by omega, rfl⟩ h.1
  unfold x_pv
  by_cases c0 : u.toInt < 0
  · obtain ⟨n2, m2, h1, -, -⟩ := l_exb kw_M0_a (by decide +kernel) (fun o h => by rw [List.mem_singleton.mp h]) hM (ys := [.ref 93, .int u, .int i, .int t, .int k, .int n]) (zs := [u.toInt, i.toInt, t.toInt, k.toInt, n.toInt]) ⟨rfl, ⟨u, rfl, rfl⟩, by omega, by omega, ⟨i, rfl, rfl⟩, by omega, by omega, ⟨t, rfl, rfl⟩, by omega, by omega, ⟨k, rfl, rfl⟩, by omega, by omega, ⟨n, rfl, rfl⟩, by omega, by omega, rfl⟩ h.1
    have e := x_det r1 h1
    cases e
    rw [if_pos (by omega)]
    exact ⟨c, _, r1, r2, r3⟩
  by_cases c1 : 3 < u.toInt
  · obtain ⟨n2, m2, h1, -, -⟩ := l_exb kw_M1_a (by decide +kernel) (fun o h => by rw [List.mem_singleton.mp h]) hM (ys := [.ref 93, .int u, .int i, .int t, .int k, .int n]) (zs := [u.toInt, i.toInt, t.toInt, k.toInt, n.toInt]) ⟨rfl, ⟨u, rfl, rfl⟩, by omega, by omega, ⟨i, rfl, rfl⟩, by omega, by omega, ⟨t, rfl, rfl⟩, by omega, by omega, ⟨k, rfl, rfl⟩, by omega, by omega, ⟨n, rfl, rfl⟩, by omega, by omega, rfl⟩ h.1
    have e := x_det r1 h1
    cases e
    rw [if_pos (by omega)]
    exact ⟨c, _, r1, r2, r3⟩
  by_cases c2 : t.toInt < 0
  · obtain ⟨n2, m2, h1, -, -⟩ := l_exb kw_M2_a (by decide +kernel) (fun o h => by rw [List.mem_singleton.mp h]) hM (ys := [.ref 93, .int u, .int i, .int t, .int k, .int n]) (zs := [u.toInt, i.toInt, t.toInt, k.toInt, n.toInt]) ⟨rfl, ⟨u, rfl, rfl⟩, by omega, by omega, ⟨i, rfl, rfl⟩, by omega, by omega, ⟨t, rfl, rfl⟩, by omega, by omega, ⟨k, rfl, rfl⟩, by omega, by omega, ⟨n, rfl, rfl⟩, by omega, by omega, rfl⟩ h.1
    have e := x_det r1 h1
    cases e
    rw [if_pos (by omega)]
    exact ⟨c, _, r1, r2, r3⟩
  by_cases c3 : 3 < t.toInt
  · obtain ⟨n2, m2, h1, -, -⟩ := l_exb kw_M3_a (by decide +kernel) (fun o h => by rw [List.mem_singleton.mp h]) hM (ys := [.ref 93, .int u, .int i, .int t, .int k, .int n]) (zs := [u.toInt, i.toInt, t.toInt, k.toInt, n.toInt]) ⟨rfl, ⟨u, rfl, rfl⟩, by omega, by omega, ⟨i, rfl, rfl⟩, by omega, by omega, ⟨t, rfl, rfl⟩, by omega, by omega, ⟨k, rfl, rfl⟩, by omega, by omega, ⟨n, rfl, rfl⟩, by omega, by omega, rfl⟩ h.1
    have e := x_det r1 h1
    cases e
    rw [if_pos (by omega)]
    exact ⟨c, _, r1, r2, r3⟩
  rw [if_neg (by omega)]
  have hu : u.toInt = 0 ∨ u.toInt = 1 ∨ u.toInt = 2 ∨ u.toInt = 3 := by omega
  have ht : t.toInt = 0 ∨ t.toInt = 1 ∨ t.toInt = 2 ∨ t.toInt = 3 := by omega
  rcases hu with hu | hu | hu | hu <;> rcases ht with ht | ht | ht | ht
  · have eu : u = 0 := x_i32 (show u.toInt = (0 : Int32).toInt from hu)
    have et : t = 0 := x_i32 (show t.toInt = (0 : Int32).toInt from ht)
    subst eu et
    obtain ⟨n2, m2, h1⟩ := xp_M00 h.1.1 i k n
    have e := x_det r1 h1
    cases e
    refine ⟨c, _, ?_, r2, r3⟩
    have f1 : q_i m0 114 ((0 : Int32).toInt.toNat) = _ := ((hg.2 0 (by decide)).1).symm
    have f2 : q_i m0 114 ((0 : Int32).toInt.toNat) = _ := ((hg.2 0 (by decide)).1).symm
    have f3 : q_i m0 115 ((0 : Int32).toInt.toNat) = _ := ((hg.2 0 (by decide)).2).symm
    have f4 : q_i m0 115 ((0 : Int32).toInt.toNat) = _ := ((hg.2 0 (by decide)).2).symm
    simp only [f1, f2, f3, f4]
    exact r1
  · have eu : u = 0 := x_i32 (show u.toInt = (0 : Int32).toInt from hu)
    have et : t = 1 := x_i32 (show t.toInt = (1 : Int32).toInt from ht)
    subst eu et
    obtain ⟨n2, m2, h1⟩ := xp_M01 h.1.1 i k n
    have e := x_det r1 h1
    cases e
    refine ⟨c, _, ?_, r2, r3⟩
    have f1 : q_i m0 114 ((0 : Int32).toInt.toNat) = _ := ((hg.2 0 (by decide)).1).symm
    have f2 : q_i m0 114 ((1 : Int32).toInt.toNat) = _ := ((hg.2 1 (by decide)).1).symm
    have f3 : q_i m0 115 ((0 : Int32).toInt.toNat) = _ := ((hg.2 0 (by decide)).2).symm
    have f4 : q_i m0 115 ((1 : Int32).toInt.toNat) = _ := ((hg.2 1 (by decide)).2).symm
    simp only [f1, f2, f3, f4]
    exact r1
  · have eu : u = 0 := x_i32 (show u.toInt = (0 : Int32).toInt from hu)
    have et : t = 2 := x_i32 (show t.toInt = (2 : Int32).toInt from ht)
    subst eu et
    obtain ⟨n2, m2, h1⟩ := xp_M02 h.1.1 i k n
    have e := x_det r1 h1
    cases e
    refine ⟨c, _, ?_, r2, r3⟩
    have f1 : q_i m0 114 ((0 : Int32).toInt.toNat) = _ := ((hg.2 0 (by decide)).1).symm
    have f2 : q_i m0 114 ((2 : Int32).toInt.toNat) = _ := ((hg.2 2 (by decide)).1).symm
    have f3 : q_i m0 115 ((0 : Int32).toInt.toNat) = _ := ((hg.2 0 (by decide)).2).symm
    have f4 : q_i m0 115 ((2 : Int32).toInt.toNat) = _ := ((hg.2 2 (by decide)).2).symm
    simp only [f1, f2, f3, f4]
    exact r1
  · have eu : u = 0 := x_i32 (show u.toInt = (0 : Int32).toInt from hu)
    have et : t = 3 := x_i32 (show t.toInt = (3 : Int32).toInt from ht)
    subst eu et
    obtain ⟨n2, m2, h1⟩ := xp_M03 h.1.1 i k n
    have e := x_det r1 h1
    cases e
    refine ⟨c, _, ?_, r2, r3⟩
    have f1 : q_i m0 114 ((0 : Int32).toInt.toNat) = _ := ((hg.2 0 (by decide)).1).symm
    have f2 : q_i m0 114 ((3 : Int32).toInt.toNat) = _ := ((hg.2 3 (by decide)).1).symm
    have f3 : q_i m0 115 ((0 : Int32).toInt.toNat) = _ := ((hg.2 0 (by decide)).2).symm
    have f4 : q_i m0 115 ((3 : Int32).toInt.toNat) = _ := ((hg.2 3 (by decide)).2).symm
    simp only [f1, f2, f3, f4]
    exact r1
  · have eu : u = 1 := x_i32 (show u.toInt = (1 : Int32).toInt from hu)
    have et : t = 0 := x_i32 (show t.toInt = (0 : Int32).toInt from ht)
    subst eu et
    obtain ⟨n2, m2, h1⟩ := xp_M10 h.1.1 i k n
    have e := x_det r1 h1
    cases e
    refine ⟨c, _, ?_, r2, r3⟩
    have f1 : q_i m0 114 ((1 : Int32).toInt.toNat) = _ := ((hg.2 1 (by decide)).1).symm
    have f2 : q_i m0 114 ((0 : Int32).toInt.toNat) = _ := ((hg.2 0 (by decide)).1).symm
    have f3 : q_i m0 115 ((1 : Int32).toInt.toNat) = _ := ((hg.2 1 (by decide)).2).symm
    have f4 : q_i m0 115 ((0 : Int32).toInt.toNat) = _ := ((hg.2 0 (by decide)).2).symm
    simp only [f1, f2, f3, f4]
    exact r1
  · have eu : u = 1 := x_i32 (show u.toInt = (1 : Int32).toInt from hu)
    have et : t = 1 := x_i32 (show t.toInt = (1 : Int32).toInt from ht)
    subst eu et
    obtain ⟨n2, m2, h1⟩ := xp_M11 h.1.1 i k n
    have e := x_det r1 h1
    cases e
    refine ⟨c, _, ?_, r2, r3⟩
    have f1 : q_i m0 114 ((1 : Int32).toInt.toNat) = _ := ((hg.2 1 (by decide)).1).symm
    have f2 : q_i m0 114 ((1 : Int32).toInt.toNat) = _ := ((hg.2 1 (by decide)).1).symm
    have f3 : q_i m0 115 ((1 : Int32).toInt.toNat) = _ := ((hg.2 1 (by decide)).2).symm
    have f4 : q_i m0 115 ((1 : Int32).toInt.toNat) = _ := ((hg.2 1 (by decide)).2).symm
    simp only [f1, f2, f3, f4]
    exact r1
  · have eu : u = 1 := x_i32 (show u.toInt = (1 : Int32).toInt from hu)
    have et : t = 2 := x_i32 (show t.toInt = (2 : Int32).toInt from ht)
    subst eu et
    obtain ⟨n2, m2, h1⟩ := xp_M12 h.1.1 i k n
    have e := x_det r1 h1
    cases e
    refine ⟨c, _, ?_, r2, r3⟩
    have f1 : q_i m0 114 ((1 : Int32).toInt.toNat) = _ := ((hg.2 1 (by decide)).1).symm
    have f2 : q_i m0 114 ((2 : Int32).toInt.toNat) = _ := ((hg.2 2 (by decide)).1).symm
    have f3 : q_i m0 115 ((1 : Int32).toInt.toNat) = _ := ((hg.2 1 (by decide)).2).symm
    have f4 : q_i m0 115 ((2 : Int32).toInt.toNat) = _ := ((hg.2 2 (by decide)).2).symm
    simp only [f1, f2, f3, f4]
    exact r1
  · have eu : u = 1 := x_i32 (show u.toInt = (1 : Int32).toInt from hu)
    have et : t = 3 := x_i32 (show t.toInt = (3 : Int32).toInt from ht)
    subst eu et
    obtain ⟨n2, m2, h1⟩ := xp_M13 h.1.1 i k n
    have e := x_det r1 h1
    cases e
    refine ⟨c, _, ?_, r2, r3⟩
    have f1 : q_i m0 114 ((1 : Int32).toInt.toNat) = _ := ((hg.2 1 (by decide)).1).symm
    have f2 : q_i m0 114 ((3 : Int32).toInt.toNat) = _ := ((hg.2 3 (by decide)).1).symm
    have f3 : q_i m0 115 ((1 : Int32).toInt.toNat) = _ := ((hg.2 1 (by decide)).2).symm
    have f4 : q_i m0 115 ((3 : Int32).toInt.toNat) = _ := ((hg.2 3 (by decide)).2).symm
    simp only [f1, f2, f3, f4]
    exact r1
  · have eu : u = 2 := x_i32 (show u.toInt = (2 : Int32).toInt from hu)
    have et : t = 0 := x_i32 (show t.toInt = (0 : Int32).toInt from ht)
    subst eu et
    obtain ⟨n2, m2, h1⟩ := xp_M20 h.1.1 i k n
    have e := x_det r1 h1
    cases e
    refine ⟨c, _, ?_, r2, r3⟩
    have f1 : q_i m0 114 ((2 : Int32).toInt.toNat) = _ := ((hg.2 2 (by decide)).1).symm
    have f2 : q_i m0 114 ((0 : Int32).toInt.toNat) = _ := ((hg.2 0 (by decide)).1).symm
    have f3 : q_i m0 115 ((2 : Int32).toInt.toNat) = _ := ((hg.2 2 (by decide)).2).symm
    have f4 : q_i m0 115 ((0 : Int32).toInt.toNat) = _ := ((hg.2 0 (by decide)).2).symm
    simp only [f1, f2, f3, f4]
    exact r1
  · have eu : u = 2 := x_i32 (show u.toInt = (2 : Int32).toInt from hu)
    have et : t = 1 := x_i32 (show t.toInt = (1 : Int32).toInt from ht)
    subst eu et
    obtain ⟨n2, m2, h1⟩ := xp_M21 h.1.1 i k n
    have e := x_det r1 h1
    cases e
    refine ⟨c, _, ?_, r2, r3⟩
    have f1 : q_i m0 114 ((2 : Int32).toInt.toNat) = _ := ((hg.2 2 (by decide)).1).symm
    have f2 : q_i m0 114 ((1 : Int32).toInt.toNat) = _ := ((hg.2 1 (by decide)).1).symm
    have f3 : q_i m0 115 ((2 : Int32).toInt.toNat) = _ := ((hg.2 2 (by decide)).2).symm
    have f4 : q_i m0 115 ((1 : Int32).toInt.toNat) = _ := ((hg.2 1 (by decide)).2).symm
    simp only [f1, f2, f3, f4]
    exact r1
  · have eu : u = 2 := x_i32 (show u.toInt = (2 : Int32).toInt from hu)
    have et : t = 2 := x_i32 (show t.toInt = (2 : Int32).toInt from ht)
    subst eu et
    obtain ⟨n2, m2, h1⟩ := xp_M22 h.1.1 i k n
    have e := x_det r1 h1
    cases e
    refine ⟨c, _, ?_, r2, r3⟩
    have f1 : q_i m0 114 ((2 : Int32).toInt.toNat) = _ := ((hg.2 2 (by decide)).1).symm
    have f2 : q_i m0 114 ((2 : Int32).toInt.toNat) = _ := ((hg.2 2 (by decide)).1).symm
    have f3 : q_i m0 115 ((2 : Int32).toInt.toNat) = _ := ((hg.2 2 (by decide)).2).symm
    have f4 : q_i m0 115 ((2 : Int32).toInt.toNat) = _ := ((hg.2 2 (by decide)).2).symm
    simp only [f1, f2, f3, f4]
    exact r1
  · have eu : u = 2 := x_i32 (show u.toInt = (2 : Int32).toInt from hu)
    have et : t = 3 := x_i32 (show t.toInt = (3 : Int32).toInt from ht)
    subst eu et
    obtain ⟨n2, m2, h1⟩ := xp_M23 h.1.1 i k n
    have e := x_det r1 h1
    cases e
    refine ⟨c, _, ?_, r2, r3⟩
    have f1 : q_i m0 114 ((2 : Int32).toInt.toNat) = _ := ((hg.2 2 (by decide)).1).symm
    have f2 : q_i m0 114 ((3 : Int32).toInt.toNat) = _ := ((hg.2 3 (by decide)).1).symm
    have f3 : q_i m0 115 ((2 : Int32).toInt.toNat) = _ := ((hg.2 2 (by decide)).2).symm
    have f4 : q_i m0 115 ((3 : Int32).toInt.toNat) = _ := ((hg.2 3 (by decide)).2).symm
    simp only [f1, f2, f3, f4]
    exact r1
  · have eu : u = 3 := x_i32 (show u.toInt = (3 : Int32).toInt from hu)
    have et : t = 0 := x_i32 (show t.toInt = (0 : Int32).toInt from ht)
    subst eu et
    obtain ⟨n2, m2, h1⟩ := xp_M30 h.1.1 i k n
    have e := x_det r1 h1
    cases e
    refine ⟨c, _, ?_, r2, r3⟩
    have f1 : q_i m0 114 ((3 : Int32).toInt.toNat) = _ := ((hg.2 3 (by decide)).1).symm
    have f2 : q_i m0 114 ((0 : Int32).toInt.toNat) = _ := ((hg.2 0 (by decide)).1).symm
    have f3 : q_i m0 115 ((3 : Int32).toInt.toNat) = _ := ((hg.2 3 (by decide)).2).symm
    have f4 : q_i m0 115 ((0 : Int32).toInt.toNat) = _ := ((hg.2 0 (by decide)).2).symm
    simp only [f1, f2, f3, f4]
    exact r1
  · have eu : u = 3 := x_i32 (show u.toInt = (3 : Int32).toInt from hu)
    have et : t = 1 := x_i32 (show t.toInt = (1 : Int32).toInt from ht)
    subst eu et
    obtain ⟨n2, m2, h1⟩ := xp_M31 h.1.1 i k n
    have e := x_det r1 h1
    cases e
    refine ⟨c, _, ?_, r2, r3⟩
    have f1 : q_i m0 114 ((3 : Int32).toInt.toNat) = _ := ((hg.2 3 (by decide)).1).symm
    have f2 : q_i m0 114 ((1 : Int32).toInt.toNat) = _ := ((hg.2 1 (by decide)).1).symm
    have f3 : q_i m0 115 ((3 : Int32).toInt.toNat) = _ := ((hg.2 3 (by decide)).2).symm
    have f4 : q_i m0 115 ((1 : Int32).toInt.toNat) = _ := ((hg.2 1 (by decide)).2).symm
    simp only [f1, f2, f3, f4]
    exact r1
  · have eu : u = 3 := x_i32 (show u.toInt = (3 : Int32).toInt from hu)
    have et : t = 2 := x_i32 (show t.toInt = (2 : Int32).toInt from ht)
    subst eu et
    obtain ⟨n2, m2, h1⟩ := xp_M32 h.1.1 i k n
    have e := x_det r1 h1
    cases e
    refine ⟨c, _, ?_, r2, r3⟩
    have f1 : q_i m0 114 ((3 : Int32).toInt.toNat) = _ := ((hg.2 3 (by decide)).1).symm
    have f2 : q_i m0 114 ((2 : Int32).toInt.toNat) = _ := ((hg.2 2 (by decide)).1).symm
    have f3 : q_i m0 115 ((3 : Int32).toInt.toNat) = _ := ((hg.2 3 (by decide)).2).symm
    have f4 : q_i m0 115 ((2 : Int32).toInt.toNat) = _ := ((hg.2 2 (by decide)).2).symm
    simp only [f1, f2, f3, f4]
    exact r1
  · have eu : u = 3 := x_i32 (show u.toInt = (3 : Int32).toInt from hu)
    have et : t = 3 := x_i32 (show t.toInt = (3 : Int32).toInt from ht)
    subst eu et
    obtain ⟨n2, m2, h1⟩ := xp_M33 h.1.1 i k n
    have e := x_det r1 h1
    cases e
    refine ⟨c, _, ?_, r2, r3⟩
    have f1 : q_i m0 114 ((3 : Int32).toInt.toNat) = _ := ((hg.2 3 (by decide)).1).symm
    have f2 : q_i m0 114 ((3 : Int32).toInt.toNat) = _ := ((hg.2 3 (by decide)).1).symm
    have f3 : q_i m0 115 ((3 : Int32).toInt.toNat) = _ := ((hg.2 3 (by decide)).2).symm
    have f4 : q_i m0 115 ((3 : Int32).toInt.toNat) = _ := ((hg.2 3 (by decide)).2).symm
    simp only [f1, f2, f3, f4]
    exact r1
theorem x_okpC {a : Nat} {xs : Nat → Int32} {m0 : q_M}   : l_ok (x_I m0 (xs (a + 1)) (xs (a + 2)) (xs (a + 3))) a xs (fun _ => x_pv m0 (xs (a + 1)) (xs (a + 2)) (xs (a + 3)) (xs (a + 4)) (xs (a + 5))) (215, [(0, 0), (3, 1), (3, 2), (3, 3), (3, 4), (3, 5)], (7, 0), (0, 0)) := by
  intro m ys rest hp hs hr
  obtain ⟨M1, k1, k2⟩ := l_cal_ok (by decide +kernel : l_cal 215 [(0, 0), (3, 1), (3, 2), (3, 3), (3, 4), (3, 5)] = true) (show bi_M kc_I m from hp.1.1.1) hs hr
  have hM : (q_gM q_D)[215]? = some q_m215 := rfl
  have e : M1 = q_m215 := Option.some.inj (k1.symm.trans hM)
  subst e
  obtain ⟨y0, ys0, rfl, h0, hs⟩ := g_ca hs
  obtain ⟨y1, ys1, rfl, h1, hs⟩ := g_ca hs
  obtain ⟨y2, ys2, rfl, h2, hs⟩ := g_ca hs
  obtain ⟨y3, ys3, rfl, h3, hs⟩ := g_ca hs
  obtain ⟨y4, ys4, rfl, h4, hs⟩ := g_ca hs
  obtain ⟨y5, ys5, rfl, h5, hs⟩ := g_ca hs
  have e4 := g_na hs
  subst e4
  have h0 : y0 = .ref 0 := h0
  have h1 : y1 = .int (xs (a + 1)) := h1
  have h2 : y2 = .int (xs (a + 2)) := h2
  have h3 : y3 = .int (xs (a + 3)) := h3
  have h4 : y4 = .int (xs (a + 4)) := h4
  have h5 : y5 = .int (xs (a + 5)) := h5
  subst h0 h1 h2 h3 h4 h5
  obtain ⟨n, m1, r1, r2, r3⟩ := x_paC hp.1 hp.2 (xs (a + 1)) (xs (a + 2)) (xs (a + 3)) (xs (a + 4)) (xs (a + 5))
  exact ⟨_, n, _, m1, k2, r1, x_of0 (by decide +kernel) m m1 hp r2 r3, rfl⟩
theorem x_okpM {a : Nat} {xs : Nat → Int32} {m0 : q_M}   : l_ok (x_I m0 (xs (a + 1)) (xs (a + 2)) (xs (a + 3))) a xs (fun _ => x_pv m0 (xs (a + 1)) (xs (a + 2)) (xs (a + 3)) (xs (a + 4)) (xs (a + 5))) (369, [(0, 93), (3, 1), (3, 2), (3, 3), (3, 4), (3, 5)], (7, 0), (0, 1)) := by
  intro m ys rest hp hs hr
  obtain ⟨M1, k1, k2⟩ := l_cal_ok (by decide +kernel : l_cal 369 [(0, 93), (3, 1), (3, 2), (3, 3), (3, 4), (3, 5)] = true) (show bi_M kc_I m from hp.1.1.1) hs hr
  have hM : (q_gM q_D)[369]? = some q_m369 := rfl
  have e : M1 = q_m369 := Option.some.inj (k1.symm.trans hM)
  subst e
  obtain ⟨y0, ys0, rfl, h0, hs⟩ := g_ca hs
  obtain ⟨y1, ys1, rfl, h1, hs⟩ := g_ca hs
  obtain ⟨y2, ys2, rfl, h2, hs⟩ := g_ca hs
  obtain ⟨y3, ys3, rfl, h3, hs⟩ := g_ca hs
  obtain ⟨y4, ys4, rfl, h4, hs⟩ := g_ca hs
  obtain ⟨y5, ys5, rfl, h5, hs⟩ := g_ca hs
  have e4 := g_na hs
  subst e4
  have h0 : y0 = .ref 93 := h0
  have h1 : y1 = .int (xs (a + 1)) := h1
  have h2 : y2 = .int (xs (a + 2)) := h2
  have h3 : y3 = .int (xs (a + 3)) := h3
  have h4 : y4 = .int (xs (a + 4)) := h4
  have h5 : y5 = .int (xs (a + 5)) := h5
  subst h0 h1 h2 h3 h4 h5
  obtain ⟨n, m1, r1, r2, r3⟩ := x_paM hp.1 hp.2 (xs (a + 1)) (xs (a + 2)) (xs (a + 3)) (xs (a + 4)) (xs (a + 5))
  exact ⟨_, n, _, m1, k2, r1, x_of1 (by decide +kernel) m m1 hp r2 r3, rfl⟩

def x_wv (m0 : q_M) (s i : Int32) : Int32 := if s.toInt < 0 ∨ 3 < s.toInt then Int32.ofInt (-2) else if q_i m0 114 s.toInt.toNat = -1 then Int32.ofInt (-6) else if i.toInt < 0 ∨ q_i m0 114 s.toInt.toNat ≤ i.toInt then Int32.ofInt (-7) else Int32.ofInt 0
def kw_C0 : b_Con := (212, [.inr (.inl 0), .inl (false, (-2147483648), (-1)), .inl (false, (-2147483648), 2147483647), .inl (true, (-9223372036854775808), 9223372036854775807)], [(some (false, (-2), (-2)), [])], [], [])
set_option maxRecDepth 100000 in
theorem kw_C0_k : b_chk r_hk q_D kc_I r_fp 3000 kw_C0 [142, 143, 213] [kc_238, kc_239, kc_240, kc_241] []
   [] = true := by decide +kernel
theorem kw_C0_a : bc_ok q_D kc_I (r_F kK 0) kw_C0 := b_chk_ok (r_hk_ok kc_Iok kK1) kc_srt (r_bgF kc_Iok) kw_C0_k (ka_cons (ka_238 0) (ka_cons (ka_239 0) (ka_cons (ka_240 0) (ka_cons (ka_241 0) ka_nil))))
def kw_C1 : b_Con := (212, [.inr (.inl 0), .inl (false, 4, 2147483647), .inl (false, (-2147483648), 2147483647), .inl (true, (-9223372036854775808), 9223372036854775807)], [(some (false, (-2), (-2)), [])], [], [])
set_option maxRecDepth 100000 in
theorem kw_C1_k : b_chk r_hk q_D kc_I r_fp 3000 kw_C1 [142, 143, 213] [kc_238, kc_239, kc_240, kc_241] []
   [] = true := by decide +kernel
theorem kw_C1_a : bc_ok q_D kc_I (r_F kK 0) kw_C1 := b_chk_ok (r_hk_ok kc_Iok kK1) kc_srt (r_bgF kc_Iok) kw_C1_k (ka_cons (ka_238 0) (ka_cons (ka_239 0) (ka_cons (ka_240 0) (ka_cons (ka_241 0) ka_nil))))
theorem x_wrC {m0 m : q_M} (h : x_J m) (hg : x_sg m0 m) (u i : Int32) (v : Int64) : ∃ (n : Nat) (m1 : q_M), q_run q_D n q_m212 0 (lv_args 0 [.ref 0, .int u, .int i, .long v]) [] m = some (some (.int (x_wv m0 u i)), m1) ∧ l_J m1 ∧ q_same [(86, 0, 59), (88, 0, 59), (90, 0, 59), (92, 0, 59)] m m1 := by
  have u1 := Int32.le_toInt u
  have u2 := Int32.toInt_lt u
  have i1 := Int32.le_toInt i
  have i2 := Int32.toInt_lt i
  have v1 := Int64.le_toInt v
  have v2 := Int64.toInt_lt v
  have hM : (q_gM q_D)[212]? = some q_m212 := rfl
  obtain ⟨n, r, m1, r1, r2, r3, -⟩ := l_run1 (ka_242 0) (by decide +kernel) hM (ys := [.ref 0, .int u, .int i, .long v]) (zs := [u.toInt, i.toInt, v.toInt]) ⟨rfl, ⟨u, rfl, rfl⟩, by omega, by omega, ⟨i, rfl, rfl⟩, by omega, by omega, ⟨v, rfl, rfl⟩, by omega, by omega, rfl⟩ h.1
  unfold x_wv
  by_cases c0 : u.toInt < 0
  · obtain ⟨n2, m2, h1, -, -⟩ := l_exb kw_C0_a (by decide +kernel) (fun o h => by rw [List.mem_singleton.mp h]) hM (ys := [.ref 0, .int u, .int i, .long v]) (zs := [u.toInt, i.toInt, v.toInt]) ⟨rfl, ⟨u, rfl, rfl⟩, by omega, by omega, ⟨i, rfl, rfl⟩, by omega, by omega, ⟨v, rfl, rfl⟩, by omega, by omega, rfl⟩ h.1
    have e := x_det r1 h1
    cases e
    rw [if_pos (by omega)]
    exact ⟨n, _, r1, r2, r3⟩
  by_cases c1 : 3 < u.toInt
  · obtain ⟨n2, m2, h1, -, -⟩ := l_exb kw_C1_a (by decide +kernel) (fun o h => by rw [List.mem_singleton.mp h]) hM (ys := [.ref 0, .int u, .int i, .long v]) (zs := [u.toInt, i.toInt, v.toInt]) ⟨rfl, ⟨u, rfl, rfl⟩, by omega, by omega, ⟨i, rfl, rfl⟩, by omega, by omega, ⟨v, rfl, rfl⟩, by omega, by omega, rfl⟩ h.1
    have e := x_det r1 h1
    cases e
    rw [if_pos (by omega)]
    exact ⟨n, _, r1, r2, r3⟩
  rw [if_neg (by omega)]
  have hc : u.toInt = 0 ∨ u.toInt = 1 ∨ u.toInt = 2 ∨ u.toInt = 3 := by omega
  rcases hc with hc | hc | hc | hc
  · have hu : u = 0 := x_i32 (show u.toInt = (0 : Int32).toInt from hc)
    subst hu
    have hf : q_i m0 114 ((0 : Int32).toInt.toNat) = q_i m 85 2 := (((h.2.2 0 (by decide)).1.trans (hg.2 0 (by decide)).1)).symm
    rw [hf]
    have hb := x_pl_85_2 h.1.1
    by_cases d0 : q_i m 85 2 = -1
    · obtain ⟨n2, m2, h1⟩ := xw_C0a_p h.1.1 i v d0
      have e := x_det r1 h1
      cases e
      rw [if_pos d0]
      exact ⟨n, _, r1, r2, r3⟩
    rw [if_neg d0]
    by_cases d1 : i.toInt < 0
    · obtain ⟨n2, m2, h1⟩ := xw_C0b_p h.1.1 i v (by omega) d1
      have e := x_det r1 h1
      cases e
      rw [if_pos (Or.inl d1)]
      exact ⟨n, _, r1, r2, r3⟩
    by_cases d2 : q_i m 85 2 ≤ i.toInt
    · obtain ⟨n2, m2, h1⟩ := xw_C0c_p h.1.1 i v (by omega) d2
      have e := x_det r1 h1
      cases e
      rw [if_pos (Or.inr d2)]
      exact ⟨n, _, r1, r2, r3⟩
    · obtain ⟨n2, m2, h1⟩ := xw_C0d_p h.1.1 i v (by omega) (by omega) (by omega)
      have e := x_det r1 h1
      cases e
      rw [if_neg (by omega)]
      exact ⟨n, _, r1, r2, r3⟩
  · have hu : u = 1 := x_i32 (show u.toInt = (1 : Int32).toInt from hc)
    subst hu
    have hf : q_i m0 114 ((1 : Int32).toInt.toNat) = q_i m 87 2 := (((h.2.2 1 (by decide)).1.trans (hg.2 1 (by decide)).1)).symm
    rw [hf]
    have hb := x_pl_87_2 h.1.1
    by_cases d0 : q_i m 87 2 = -1
    · obtain ⟨n2, m2, h1⟩ := xw_C1a_p h.1.1 i v d0
      have e := x_det r1 h1
      cases e
      rw [if_pos d0]
      exact ⟨n, _, r1, r2, r3⟩
    rw [if_neg d0]
    by_cases d1 : i.toInt < 0
    · obtain ⟨n2, m2, h1⟩ := xw_C1b_p h.1.1 i v (by omega) d1
      have e := x_det r1 h1
      cases e
      rw [if_pos (Or.inl d1)]
      exact ⟨n, _, r1, r2, r3⟩
    by_cases d2 : q_i m 87 2 ≤ i.toInt
    · obtain ⟨n2, m2, h1⟩ := xw_C1c_p h.1.1 i v (by omega) d2
      have e := x_det r1 h1
      cases e
      rw [if_pos (Or.inr d2)]
      exact ⟨n, _, r1, r2, r3⟩
    · obtain ⟨n2, m2, h1⟩ := xw_C1d_p h.1.1 i v (by omega) (by omega) (by omega)
      have e := x_det r1 h1
      cases e
      rw [if_neg (by omega)]
      exact ⟨n, _, r1, r2, r3⟩
  · have hu : u = 2 := x_i32 (show u.toInt = (2 : Int32).toInt from hc)
    subst hu
    have hf : q_i m0 114 ((2 : Int32).toInt.toNat) = q_i m 89 2 := (((h.2.2 2 (by decide)).1.trans (hg.2 2 (by decide)).1)).symm
    rw [hf]
    have hb := x_pl_89_2 h.1.1
    by_cases d0 : q_i m 89 2 = -1
    · obtain ⟨n2, m2, h1⟩ := xw_C2a_p h.1.1 i v d0
      have e := x_det r1 h1
      cases e
      rw [if_pos d0]
      exact ⟨n, _, r1, r2, r3⟩
    rw [if_neg d0]
    by_cases d1 : i.toInt < 0
    · obtain ⟨n2, m2, h1⟩ := xw_C2b_p h.1.1 i v (by omega) d1
      have e := x_det r1 h1
      cases e
      rw [if_pos (Or.inl d1)]
      exact ⟨n, _, r1, r2, r3⟩
    by_cases d2 : q_i m 89 2 ≤ i.toInt
    · obtain ⟨n2, m2, h1⟩ := xw_C2c_p h.1.1 i v (by omega) d2
      have e := x_det r1 h1
      cases e
      rw [if_pos (Or.inr d2)]
      exact ⟨n, _, r1, r2, r3⟩
    · obtain ⟨n2, m2, h1⟩ := xw_C2d_p h.1.1 i v (by omega) (by omega) (by omega)
      have e := x_det r1 h1
      cases e
      rw [if_neg (by omega)]
      exact ⟨n, _, r1, r2, r3⟩
  · have hu : u = 3 := x_i32 (show u.toInt = (3 : Int32).toInt from hc)
    subst hu
    have hf : q_i m0 114 ((3 : Int32).toInt.toNat) = q_i m 91 2 := (((h.2.2 3 (by decide)).1.trans (hg.2 3 (by decide)).1)).symm
    rw [hf]
    have hb := x_pl_91_2 h.1.1
    by_cases d0 : q_i m 91 2 = -1
    · obtain ⟨n2, m2, h1⟩ := xw_C3a_p h.1.1 i v d0
      have e := x_det r1 h1
      cases e
      rw [if_pos d0]
      exact ⟨n, _, r1, r2, r3⟩
    rw [if_neg d0]
    by_cases d1 : i.toInt < 0
    · obtain ⟨n2, m2, h1⟩ := xw_C3b_p h.1.1 i v (by omega) d1
      have e := x_det r1 h1
      cases e
      rw [if_pos (Or.inl d1)]
      exact ⟨n, _, r1, r2, r3⟩
    by_cases d2 : q_i m 91 2 ≤ i.toInt
    · obtain ⟨n2, m2, h1⟩ := xw_C3c_p h.1.1 i v (by omega) d2
      have e := x_det r1 h1
      cases e
      rw [if_pos (Or.inr d2)]
      exact ⟨n, _, r1, r2, r3⟩
    · obtain ⟨n2, m2, h1⟩ := xw_C3d_p h.1.1 i v (by omega) (by omega) (by omega)
      have e := x_det r1 h1
      cases e
      rw [if_neg (by omega)]
      exact ⟨n, _, r1, r2, r3⟩
def kw_M0 : b_Con := (367, [.inr (.inl 93), .inl (false, (-2147483648), (-1)), .inl (false, (-2147483648), 2147483647), .inl (true, (-9223372036854775808), 9223372036854775807)], [(some (false, (-2), (-2)), [])], [], [])
set_option maxRecDepth 100000 in
theorem kw_M0_k : b_chk r_hk q_D kc_I r_fp 3000 kw_M0 [218, 294] [kc_460] []
   [] = true := by decide +kernel
theorem kw_M0_a : bc_ok q_D kc_I (r_F kK 0) kw_M0 := b_chk_ok (r_hk_ok kc_Iok kK1) kc_srt (r_bgF kc_Iok) kw_M0_k (ka_cons (ka_460 0) ka_nil)
def kw_M1 : b_Con := (367, [.inr (.inl 93), .inl (false, 4, 2147483647), .inl (false, (-2147483648), 2147483647), .inl (true, (-9223372036854775808), 9223372036854775807)], [(some (false, (-2), (-2)), [])], [], [])
set_option maxRecDepth 100000 in
theorem kw_M1_k : b_chk r_hk q_D kc_I r_fp 3000 kw_M1 [218, 294] [kc_460] []
   [] = true := by decide +kernel
theorem kw_M1_a : bc_ok q_D kc_I (r_F kK 0) kw_M1 := b_chk_ok (r_hk_ok kc_Iok kK1) kc_srt (r_bgF kc_Iok) kw_M1_k (ka_cons (ka_460 0) ka_nil)
theorem x_wrM {m0 m : q_M} (h : x_J m) (hg : x_sg m0 m) (u i : Int32) (v : Int64) : ∃ (n : Nat) (m1 : q_M), q_run q_D n q_m367 0 (lv_args 0 [.ref 93, .int u, .int i, .long v]) [] m = some (some (.int (x_wv m0 u i)), m1) ∧ l_J m1 ∧ q_same [(116, 0, 239)] m m1 := by
  have u1 := Int32.le_toInt u
  have u2 := Int32.toInt_lt u
  have i1 := Int32.le_toInt i
  have i2 := Int32.toInt_lt i
  have v1 := Int64.le_toInt v
  have v2 := Int64.toInt_lt v
  have hM : (q_gM q_D)[367]? = some q_m367 := rfl
  obtain ⟨n, r, m1, r1, r2, r3, -⟩ := l_run1 (ka_461 0) (by decide +kernel) hM (ys := [.ref 93, .int u, .int i, .long v]) (zs := [u.toInt, i.toInt, v.toInt]) ⟨rfl, ⟨u, rfl, rfl⟩, by omega, by omega, ⟨i, rfl, rfl⟩, by omega, by omega, ⟨v, rfl, rfl⟩, by omega, by omega, rfl⟩ h.1
  unfold x_wv
  by_cases c0 : u.toInt < 0
  · obtain ⟨n2, m2, h1, -, -⟩ := l_exb kw_M0_a (by decide +kernel) (fun o h => by rw [List.mem_singleton.mp h]) hM (ys := [.ref 93, .int u, .int i, .long v]) (zs := [u.toInt, i.toInt, v.toInt]) ⟨rfl, ⟨u, rfl, rfl⟩, by omega, by omega, ⟨i, rfl, rfl⟩, by omega, by omega, ⟨v, rfl, rfl⟩, by omega, by omega, rfl⟩ h.1
    have e := x_det r1 h1
    cases e
    rw [if_pos (by omega)]
    exact ⟨n, _, r1, r2, r3⟩
  by_cases c1 : 3 < u.toInt
  · obtain ⟨n2, m2, h1, -, -⟩ := l_exb kw_M1_a (by decide +kernel) (fun o h => by rw [List.mem_singleton.mp h]) hM (ys := [.ref 93, .int u, .int i, .long v]) (zs := [u.toInt, i.toInt, v.toInt]) ⟨rfl, ⟨u, rfl, rfl⟩, by omega, by omega, ⟨i, rfl, rfl⟩, by omega, by omega, ⟨v, rfl, rfl⟩, by omega, by omega, rfl⟩ h.1
    have e := x_det r1 h1
    cases e
    rw [if_pos (by omega)]
    exact ⟨n, _, r1, r2, r3⟩
  rw [if_neg (by omega)]
  have hc : u.toInt = 0 ∨ u.toInt = 1 ∨ u.toInt = 2 ∨ u.toInt = 3 := by omega
  rcases hc with hc | hc | hc | hc
  · have hu : u = 0 := x_i32 (show u.toInt = (0 : Int32).toInt from hc)
    subst hu
    have hf : q_i m0 114 ((0 : Int32).toInt.toNat) = q_i m 114 0 := ((hg.2 0 (by decide)).1).symm
    rw [hf]
    have hb := x_pl_114_0 h.1.1
    by_cases d0 : q_i m 114 0 = -1
    · obtain ⟨n2, m2, h1⟩ := xw_M0a_p h.1.1 i v d0
      have e := x_det r1 h1
      cases e
      rw [if_pos d0]
      exact ⟨n, _, r1, r2, r3⟩
    rw [if_neg d0]
    by_cases d1 : i.toInt < 0
    · obtain ⟨n2, m2, h1⟩ := xw_M0b_p h.1.1 i v (by omega) d1
      have e := x_det r1 h1
      cases e
      rw [if_pos (Or.inl d1)]
      exact ⟨n, _, r1, r2, r3⟩
    by_cases d2 : q_i m 114 0 ≤ i.toInt
    · obtain ⟨n2, m2, h1⟩ := xw_M0c_p h.1.1 i v (by omega) d2
      have e := x_det r1 h1
      cases e
      rw [if_pos (Or.inr d2)]
      exact ⟨n, _, r1, r2, r3⟩
    · obtain ⟨n2, m2, h1⟩ := xw_M0d_p h.1.1 i v (by omega) (by omega) (by omega)
      have e := x_det r1 h1
      cases e
      rw [if_neg (by omega)]
      exact ⟨n, _, r1, r2, r3⟩
  · have hu : u = 1 := x_i32 (show u.toInt = (1 : Int32).toInt from hc)
    subst hu
    have hf : q_i m0 114 ((1 : Int32).toInt.toNat) = q_i m 114 1 := ((hg.2 1 (by decide)).1).symm
    rw [hf]
    have hb := x_pl_114_1 h.1.1
    by_cases d0 : q_i m 114 1 = -1
    · obtain ⟨n2, m2, h1⟩ := xw_M1a_p h.1.1 i v d0
      have e := x_det r1 h1
      cases e
      rw [if_pos d0]
      exact ⟨n, _, r1, r2, r3⟩
    rw [if_neg d0]
    by_cases d1 : i.toInt < 0
    · obtain ⟨n2, m2, h1⟩ := xw_M1b_p h.1.1 i v (by omega) d1
      have e := x_det r1 h1
      cases e
      rw [if_pos (Or.inl d1)]
      exact ⟨n, _, r1, r2, r3⟩
    by_cases d2 : q_i m 114 1 ≤ i.toInt
    · obtain ⟨n2, m2, h1⟩ := xw_M1c_p h.1.1 i v (by omega) d2
      have e := x_det r1 h1
      cases e
      rw [if_pos (Or.inr d2)]
      exact ⟨n, _, r1, r2, r3⟩
    · obtain ⟨n2, m2, h1⟩ := xw_M1d_p h.1.1 i v (by omega) (by omega) (by omega)
      have e := x_det r1 h1
      cases e
      rw [if_neg (by omega)]
      exact ⟨n, _, r1, r2, r3⟩
  · have hu : u = 2 := x_i32 (show u.toInt = (2 : Int32).toInt from hc)
    subst hu
    have hf : q_i m0 114 ((2 : Int32).toInt.toNat) = q_i m 114 2 := ((hg.2 2 (by decide)).1).symm
    rw [hf]
    have hb := x_pl_114_2 h.1.1
    by_cases d0 : q_i m 114 2 = -1
    · obtain ⟨n2, m2, h1⟩ := xw_M2a_p h.1.1 i v d0
      have e := x_det r1 h1
      cases e
      rw [if_pos d0]
      exact ⟨n, _, r1, r2, r3⟩
    rw [if_neg d0]
    by_cases d1 : i.toInt < 0
    · obtain ⟨n2, m2, h1⟩ := xw_M2b_p h.1.1 i v (by omega) d1
      have e := x_det r1 h1
      cases e
      rw [if_pos (Or.inl d1)]
      exact ⟨n, _, r1, r2, r3⟩
    by_cases d2 : q_i m 114 2 ≤ i.toInt
    · obtain ⟨n2, m2, h1⟩ := xw_M2c_p h.1.1 i v (by omega) d2
      have e := x_det r1 h1
      cases e
      rw [if_pos (Or.inr d2)]
      exact ⟨n, _, r1, r2, r3⟩
    · obtain ⟨n2, m2, h1⟩ := xw_M2d_p h.1.1 i v (by omega) (by omega) (by omega)
      have e := x_det r1 h1
      cases e
      rw [if_neg (by omega)]
      exact ⟨n, _, r1, r2, r3⟩
  · have hu : u = 3 := x_i32 (show u.toInt = (3 : Int32).toInt from hc)
    subst hu
    have hf : q_i m0 114 ((3 : Int32).toInt.toNat) = q_i m 114 3 := ((hg.2 3 (by decide)).1).symm
    rw [hf]
    have hb := x_pl_114_3 h.1.1
    by_cases d0 : q_i m 114 3 = -1
    · obtain ⟨n2, m2, h1⟩ := xw_M3a_p h.1.1 i v d0
      have e := x_det r1 h1
      cases e
      rw [if_pos d0]
      exact ⟨n, _, r1, r2, r3⟩
    rw [if_neg d0]
    by_cases d1 : i.toInt < 0
    · obtain ⟨n2, m2, h1⟩ := xw_M3b_p h.1.1 i v (by omega) d1
      have e := x_det r1 h1
      cases e
      rw [if_pos (Or.inl d1)]
      exact ⟨n, _, r1, r2, r3⟩
    by_cases d2 : q_i m 114 3 ≤ i.toInt
    · obtain ⟨n2, m2, h1⟩ := xw_M3c_p h.1.1 i v (by omega) d2
      have e := x_det r1 h1
      cases e
      rw [if_pos (Or.inr d2)]
      exact ⟨n, _, r1, r2, r3⟩
    · obtain ⟨n2, m2, h1⟩ := xw_M3d_p h.1.1 i v (by omega) (by omega) (by omega)
      have e := x_det r1 h1
      cases e
      rw [if_neg (by omega)]
      exact ⟨n, _, r1, r2, r3⟩
theorem x_okwC {a : Nat} {xs : Nat → Int32} {m0 : q_M}   : l_ok (x_I m0 (xs (a + 1)) (xs (a + 2)) (xs (a + 3))) a xs (fun _ => x_wv m0 (xs (a + 1)) (xs (a + 2))) (212, [(0, 0), (3, 1), (3, 2), (5, 0)], (7, 0), (0, 0)) := by
  intro m ys rest hp hs hr
  obtain ⟨M1, k1, k2⟩ := l_cal_ok (by decide +kernel : l_cal 212 [(0, 0), (3, 1), (3, 2), (5, 0)] = true) (show bi_M kc_I m from hp.1.1.1) hs hr
  have hM : (q_gM q_D)[212]? = some q_m212 := rfl
  have e : M1 = q_m212 := Option.some.inj (k1.symm.trans hM)
  subst e
  obtain ⟨y0, ys0, rfl, h0, hs⟩ := g_ca hs
  obtain ⟨y1, ys1, rfl, h1, hs⟩ := g_ca hs
  obtain ⟨y2, ys2, rfl, h2, hs⟩ := g_ca hs
  obtain ⟨y3, ys3, rfl, h3, hs⟩ := g_ca hs
  have e4 := g_na hs
  subst e4
  have h0 : y0 = .ref 0 := h0
  have h1 : y1 = .int (xs (a + 1)) := h1
  have h2 : y2 = .int (xs (a + 2)) := h2
  obtain ⟨lg, h3⟩ : ∃ z : Int64, y3 = .long z := h3
  subst h0 h1 h2 h3
  obtain ⟨n, m1, r1, r2, r3⟩ := x_wrC hp.1 hp.2 (xs (a + 1)) (xs (a + 2)) lg
  exact ⟨_, n, _, m1, k2, r1, x_of0 (by decide +kernel) m m1 hp r2 r3, rfl⟩
theorem x_okwM {a : Nat} {xs : Nat → Int32} {m0 : q_M}   : l_ok (x_I m0 (xs (a + 1)) (xs (a + 2)) (xs (a + 3))) a xs (fun _ => x_wv m0 (xs (a + 1)) (xs (a + 2))) (367, [(0, 93), (3, 1), (3, 2), (5, 0)], (7, 0), (0, 1)) := by
  intro m ys rest hp hs hr
  obtain ⟨M1, k1, k2⟩ := l_cal_ok (by decide +kernel : l_cal 367 [(0, 93), (3, 1), (3, 2), (5, 0)] = true) (show bi_M kc_I m from hp.1.1.1) hs hr
  have hM : (q_gM q_D)[367]? = some q_m367 := rfl
  have e : M1 = q_m367 := Option.some.inj (k1.symm.trans hM)
  subst e
  obtain ⟨y0, ys0, rfl, h0, hs⟩ := g_ca hs
  obtain ⟨y1, ys1, rfl, h1, hs⟩ := g_ca hs
  obtain ⟨y2, ys2, rfl, h2, hs⟩ := g_ca hs
  obtain ⟨y3, ys3, rfl, h3, hs⟩ := g_ca hs
  have e4 := g_na hs
  subst e4
  have h0 : y0 = .ref 93 := h0
  have h1 : y1 = .int (xs (a + 1)) := h1
  have h2 : y2 = .int (xs (a + 2)) := h2
  obtain ⟨lg, h3⟩ : ∃ z : Int64, y3 = .long z := h3
  subst h0 h1 h2 h3
  obtain ⟨n, m1, r1, r2, r3⟩ := x_wrM hp.1 hp.2 (xs (a + 1)) (xs (a + 2)) lg
  exact ⟨_, n, _, m1, k2, r1, x_of1 (by decide +kernel) m m1 hp r2 r3, rfl⟩

def x_bv (m0 : q_M) (u : Int32) : Int32 := if u.toInt < 0 ∨ 2 < u.toInt then Int32.ofInt (-2) else if q_i m0 96 u.toInt.toNat = 0 then Int32.ofInt (-6) else Int32.ofInt 0
def kw_C0 : b_Con := (208, [.inr (.inl 0), .inl (false, (-2147483648), (-1))], [(some (false, (-2), (-2)), [])], [], [])
set_option maxRecDepth 100000 in
theorem kw_C0_k : b_chk r_hk q_D kc_I r_fp 3000 kw_C0 [] [kc_69, kc_225, kc_226, kc_227] []
   [] = true := by decide +kernel
theorem kw_C0_a : bc_ok q_D kc_I (r_F kK 0) kw_C0 := b_chk_ok (r_hk_ok kc_Iok kK1) kc_srt (r_bgF kc_Iok) kw_C0_k (ka_cons (ka_69 0) (ka_cons (ka_225 0) (ka_cons (ka_226 0) (ka_cons (ka_227 0) ka_nil))))
def kw_C1 : b_Con := (208, [.inr (.inl 0), .inl (false, 3, 2147483647)], [(some (false, (-2), (-2)), [])], [], [])
set_option maxRecDepth 100000 in
theorem kw_C1_k : b_chk r_hk q_D kc_I r_fp 3000 kw_C1 [] [kc_69, kc_225, kc_226, kc_227] []
   [] = true := by decide +kernel
theorem kw_C1_a : bc_ok q_D kc_I (r_F kK 0) kw_C1 := b_chk_ok (r_hk_ok kc_Iok kK1) kc_srt (r_bgF kc_Iok) kw_C1_k (ka_cons (ka_69 0) (ka_cons (ka_225 0) (ka_cons (ka_226 0) (ka_cons (ka_227 0) ka_nil))))
theorem x_bkC {m0 m : q_M} (h : x_J m) (hg : x_sg m0 m) (u : Int32) : ∃ (n : Nat) (m1 : q_M), q_run q_D n q_m208 0 (lv_args 0 [.ref 0, .int u]) [] m = some (some (.int (x_bv m0 u)), m1) ∧ l_J m1 ∧ q_same [(4, 0, 0), (4, 1, 1), (4, 2, 2), (4, 3, 3), (4, 4, 4), (4, 5, 5), (4, 6, 6), (5, 0, 19), (6, 0, 19), (7, 0, 19), (8, 0, 19), (9, 0, 19), (10, 0, 19), (11, 0, 5), (12, 0, 5), (13, 0, 5), (14, 0, 5), (15, 0, 119)] m m1 := by
  have u1 := Int32.le_toInt u
  have u2 := Int32.toInt_lt u
  have hM : (q_gM q_D)[208]? = some q_m208 := rfl
  obtain ⟨n, r, m1, r1, r2, r3, -⟩ := l_run1 (ka_228 0) (by decide +kernel) hM (ys := [.ref 0, .int u]) (zs := [u.toInt]) ⟨rfl, ⟨u, rfl, rfl⟩, by omega, by omega, rfl⟩ h.1
  unfold x_bv
  by_cases c0 : u.toInt < 0
  · obtain ⟨n2, m2, h1, -, -⟩ := l_exb kw_C0_a (by decide +kernel) (fun o h => by rw [List.mem_singleton.mp h]) hM (ys := [.ref 0, .int u]) (zs := [u.toInt]) ⟨rfl, ⟨u, rfl, rfl⟩, by omega, by omega, rfl⟩ h.1
    have e := x_det r1 h1
    cases e
    rw [if_pos (by omega)]
    exact ⟨n, _, r1, r2, r3⟩
  by_cases c1 : 2 < u.toInt
  · obtain ⟨n2, m2, h1, -, -⟩ := l_exb kw_C1_a (by decide +kernel) (fun o h => by rw [List.mem_singleton.mp h]) hM (ys := [.ref 0, .int u]) (zs := [u.toInt]) ⟨rfl, ⟨u, rfl, rfl⟩, by omega, by omega, rfl⟩ h.1
    have e := x_det r1 h1
    cases e
    rw [if_pos (by omega)]
    exact ⟨n, _, r1, r2, r3⟩
  rw [if_neg (by omega)]
  have hc : u.toInt = 0 ∨ u.toInt = 1 ∨ u.toInt = 2 := by omega
  rcases hc with hc | hc | hc
  · have hu : u = 0 := x_i32 (show u.toInt = (0 : Int32).toInt from hc)
    subst hu
    have hf : q_i m0 96 ((0 : Int32).toInt.toNat) = q_i m 96 0 := (hg.1 0 (by decide)).symm
    rw [hf]
    obtain ⟨w, w1, w2⟩ := (x_pl_0_5 h.1.1).1
    rcases x_fl h.1.1 (k := 0) (by decide) with c0 | c0 <;> rcases x_fl h.1.1 (k := 1) (by decide) with c1 | c1 <;> rcases x_fl h.1.1 (k := 2) (by decide) with c2 | c2
    · have hw : w = 0 := x_i32 (show w.toInt = 0 by have := h.2.1; omega)
      subst hw
      have h1 := x_back (u := 0) h.1.1 (by decide) (by decide) w1 0
      rw [if_neg (by decide)] at h1
      have e := x_det r1 h1
      cases e
      rw [c0]
      exact ⟨n, _, r1, r2, r3⟩
    · have hw : w = 4 := x_i32 (show w.toInt = 4 by have := h.2.1; omega)
      subst hw
      have h1 := x_back (u := 0) h.1.1 (by decide) (by decide) w1 0
      rw [if_neg (by decide)] at h1
      have e := x_det r1 h1
      cases e
      rw [c0]
      exact ⟨n, _, r1, r2, r3⟩
    · have hw : w = 2 := x_i32 (show w.toInt = 2 by have := h.2.1; omega)
      subst hw
      have h1 := x_back (u := 0) h.1.1 (by decide) (by decide) w1 0
      rw [if_neg (by decide)] at h1
      have e := x_det r1 h1
      cases e
      rw [c0]
      exact ⟨n, _, r1, r2, r3⟩
    · have hw : w = 6 := x_i32 (show w.toInt = 6 by have := h.2.1; omega)
      subst hw
      have h1 := x_back (u := 0) h.1.1 (by decide) (by decide) w1 0
      rw [if_neg (by decide)] at h1
      have e := x_det r1 h1
      cases e
      rw [c0]
      exact ⟨n, _, r1, r2, r3⟩
    · have hw : w = 1 := x_i32 (show w.toInt = 1 by have := h.2.1; omega)
      subst hw
      obtain ⟨n2, m2, h1⟩ := xb_C0_p h.1.1
      have hb := x_back (u := 0) h.1.1 (by decide) (by decide) w1 n2
      rw [if_pos (by decide)] at hb
      have h1 := hb.trans (q_fuel n2 (n2 + 9) _ _ _ _ _ _ (by omega) h1)
      have e := x_det r1 h1
      cases e
      rw [c0]
      exact ⟨n, _, r1, r2, r3⟩
    · have hw : w = 5 := x_i32 (show w.toInt = 5 by have := h.2.1; omega)
      subst hw
      obtain ⟨n2, m2, h1⟩ := xb_C0_p h.1.1
      have hb := x_back (u := 0) h.1.1 (by decide) (by decide) w1 n2
      rw [if_pos (by decide)] at hb
      have h1 := hb.trans (q_fuel n2 (n2 + 9) _ _ _ _ _ _ (by omega) h1)
      have e := x_det r1 h1
      cases e
      rw [c0]
      exact ⟨n, _, r1, r2, r3⟩
    · have hw : w = 3 := x_i32 (show w.toInt = 3 by have := h.2.1; omega)
      subst hw
      obtain ⟨n2, m2, h1⟩ := xb_C0_p h.1.1
      have hb := x_back (u := 0) h.1.1 (by decide) (by decide) w1 n2
      rw [if_pos (by decide)] at hb
      have h1 := hb.trans (q_fuel n2 (n2 + 9) _ _ _ _ _ _ (by omega) h1)
      have e := x_det r1 h1
      cases e
      rw [c0]
      exact ⟨n, _, r1, r2, r3⟩
    · have hw : w = 7 := x_i32 (show w.toInt = 7 by have := h.2.1; omega)
      subst hw
      obtain ⟨n2, m2, h1⟩ := xb_C0_p h.1.1
      have hb := x_back (u := 0) h.1.1 (by decide) (by decide) w1 n2
      rw [if_pos (by decide)] at hb
      have h1 := hb.trans (q_fuel n2 (n2 + 9) _ _ _ _ _ _ (by omega) h1)
      have e := x_det r1 h1
      cases e
      rw [c0]
      exact ⟨n, _, r1, r2, r3⟩
  · have hu : u = 1 := x_i32 (show u.toInt = (1 : Int32).toInt from hc)
    subst hu
    have hf : q_i m0 96 ((1 : Int32).toInt.toNat) = q_i m 96 1 := (hg.1 1 (by decide)).symm
    rw [hf]
    obtain ⟨w, w1, w2⟩ := (x_pl_0_5 h.1.1).1
    rcases x_fl h.1.1 (k := 0) (by decide) with c0 | c0 <;> rcases x_fl h.1.1 (k := 1) (by decide) with c1 | c1 <;> rcases x_fl h.1.1 (k := 2) (by decide) with c2 | c2
    · have hw : w = 0 := x_i32 (show w.toInt = 0 by have := h.2.1; omega)
      subst hw
      have h1 := x_back (u := 1) h.1.1 (by decide) (by decide) w1 0
      rw [if_neg (by decide)] at h1
      have e := x_det r1 h1
      cases e
      rw [c1]
      exact ⟨n, _, r1, r2, r3⟩
    · have hw : w = 4 := x_i32 (show w.toInt = 4 by have := h.2.1; omega)
      subst hw
      have h1 := x_back (u := 1) h.1.1 (by decide) (by decide) w1 0
      rw [if_neg (by decide)] at h1
      have e := x_det r1 h1
      cases e
      rw [c1]
      exact ⟨n, _, r1, r2, r3⟩
    · have hw : w = 2 := x_i32 (show w.toInt = 2 by have := h.2.1; omega)
      subst hw
      obtain ⟨n2, m2, h1⟩ := xb_C1_p h.1.1
      have hb := x_back (u := 1) h.1.1 (by decide) (by decide) w1 n2
      rw [if_pos (by decide)] at hb
      have h1 := hb.trans (q_fuel n2 (n2 + 9) _ _ _ _ _ _ (by omega) h1)
      have e := x_det r1 h1
      cases e
      rw [c1]
      exact ⟨n, _, r1, r2, r3⟩
    · have hw : w = 6 := x_i32 (show w.toInt = 6 by have := h.2.1; omega)
      subst hw
      obtain ⟨n2, m2, h1⟩ := xb_C1_p h.1.1
      have hb := x_back (u := 1) h.1.1 (by decide) (by decide) w1 n2
      rw [if_pos (by decide)] at hb
      have h1 := hb.trans (q_fuel n2 (n2 + 9) _ _ _ _ _ _ (by omega) h1)
      have e := x_det r1 h1
      cases e
      rw [c1]
      exact ⟨n, _, r1, r2, r3⟩
    · have hw : w = 1 := x_i32 (show w.toInt = 1 by have := h.2.1; omega)
      subst hw
      have h1 := x_back (u := 1) h.1.1 (by decide) (by decide) w1 0
      rw [if_neg (by decide)] at h1
      have e := x_det r1 h1
      cases e
      rw [c1]
      exact ⟨n, _, r1, r2, r3⟩
    · have hw : w = 5 := x_i32 (show w.toInt = 5 by have := h.2.1; omega)
      subst hw
      have h1 := x_back (u := 1) h.1.1 (by decide) (by decide) w1 0
      rw [if_neg (by decide)] at h1
      have e := x_det r1 h1
      cases e
      rw [c1]
      exact ⟨n, _, r1, r2, r3⟩
    · have hw : w = 3 := x_i32 (show w.toInt = 3 by have := h.2.1; omega)
      subst hw
      obtain ⟨n2, m2, h1⟩ := xb_C1_p h.1.1
      have hb := x_back (u := 1) h.1.1 (by decide) (by decide) w1 n2
      rw [if_pos (by decide)] at hb
      have h1 := hb.trans (q_fuel n2 (n2 + 9) _ _ _ _ _ _ (by omega) h1)
      have e := x_det r1 h1
      cases e
      rw [c1]
      exact ⟨n, _, r1, r2, r3⟩
    · have hw : w = 7 := x_i32 (show w.toInt = 7 by have := h.2.1; omega)
      subst hw
      obtain ⟨n2, m2, h1⟩ := xb_C1_p h.1.1
      have hb := x_back (u := 1) h.1.1 (by decide) (by decide) w1 n2
      rw [if_pos (by decide)] at hb
      have h1 := hb.trans (q_fuel n2 (n2 + 9) _ _ _ _ _ _ (by omega) h1)
      have e := x_det r1 h1
      cases e
      rw [c1]
      exact ⟨n, _, r1, r2, r3⟩
  · have hu : u = 2 := x_i32 (show u.toInt = (2 : Int32).toInt from hc)
    subst hu
    have hf : q_i m0 96 ((2 : Int32).toInt.toNat) = q_i m 96 2 := (hg.1 2 (by decide)).symm
    rw [hf]
    obtain ⟨w, w1, w2⟩ := (x_pl_0_5 h.1.1).1
    rcases x_fl h.1.1 (k := 0) (by decide) with c0 | c0 <;> rcases x_fl h.1.1 (k := 1) (by decide) with c1 | c1 <;> rcases x_fl h.1.1 (k := 2) (by decide) with c2 | c2
    · have hw : w = 0 := x_i32 (show w.toInt = 0 by have := h.2.1; omega)
      subst hw
      have h1 := x_back (u := 2) h.1.1 (by decide) (by decide) w1 0
      rw [if_neg (by decide)] at h1
      have e := x_det r1 h1
      cases e
      rw [c2]
      exact ⟨n, _, r1, r2, r3⟩
    · have hw : w = 4 := x_i32 (show w.toInt = 4 by have := h.2.1; omega)
      subst hw
      obtain ⟨n2, m2, h1⟩ := xb_C2_p h.1.1
      have hb := x_back (u := 2) h.1.1 (by decide) (by decide) w1 n2
      rw [if_pos (by decide)] at hb
      have h1 := hb.trans (q_fuel n2 (n2 + 9) _ _ _ _ _ _ (by omega) h1)
      have e := x_det r1 h1
      cases e
      rw [c2]
      exact ⟨n, _, r1, r2, r3⟩
    · have hw : w = 2 := x_i32 (show w.toInt = 2 by have := h.2.1; omega)
      subst hw
      have h1 := x_back (u := 2) h.1.1 (by decide) (by decide) w1 0
      rw [if_neg (by decide)] at h1
      have e := x_det r1 h1
      cases e
      rw [c2]
      exact ⟨n, _, r1, r2, r3⟩
    · have hw : w = 6 := x_i32 (show w.toInt = 6 by have := h.2.1; omega)
      subst hw
      obtain ⟨n2, m2, h1⟩ := xb_C2_p h.1.1
      have hb := x_back (u := 2) h.1.1 (by decide) (by decide) w1 n2
      rw [if_pos (by decide)] at hb
      have h1 := hb.trans (q_fuel n2 (n2 + 9) _ _ _ _ _ _ (by omega) h1)
      have e := x_det r1 h1
      cases e
      rw [c2]
      exact ⟨n, _, r1, r2, r3⟩
    · have hw : w = 1 := x_i32 (show w.toInt = 1 by have := h.2.1; omega)
      subst hw
      have h1 := x_back (u := 2) h.1.1 (by decide) (by decide) w1 0
      rw [if_neg (by decide)] at h1
      have e := x_det r1 h1
      cases e
      rw [c2]
      exact ⟨n, _, r1, r2, r3⟩
    · have hw : w = 5 := x_i32 (show w.toInt = 5 by have := h.2.1; omega)
      subst hw
      obtain ⟨n2, m2, h1⟩ := xb_C2_p h.1.1
      have hb := x_back (u := 2) h.1.1 (by decide) (by decide) w1 n2
      rw [if_pos (by decide)] at hb
      have h1 := hb.trans (q_fuel n2 (n2 + 9) _ _ _ _ _ _ (by omega) h1)
      have e := x_det r1 h1
      cases e
      rw [c2]
      exact ⟨n, _, r1, r2, r3⟩
    · have hw : w = 3 := x_i32 (show w.toInt = 3 by have := h.2.1; omega)
      subst hw
      have h1 := x_back (u := 2) h.1.1 (by decide) (by decide) w1 0
      rw [if_neg (by decide)] at h1
      have e := x_det r1 h1
      cases e
      rw [c2]
      exact ⟨n, _, r1, r2, r3⟩
    · have hw : w = 7 := x_i32 (show w.toInt = 7 by have := h.2.1; omega)
      subst hw
      obtain ⟨n2, m2, h1⟩ := xb_C2_p h.1.1
      have hb := x_back (u := 2) h.1.1 (by decide) (by decide) w1 n2
      rw [if_pos (by decide)] at hb
      have h1 := hb.trans (q_fuel n2 (n2 + 9) _ _ _ _ _ _ (by omega) h1)
      have e := x_det r1 h1
      cases e
      rw [c2]
      exact ⟨n, _, r1, r2, r3⟩
def kw_M0 : b_Con := (219, [.inr (.inl 93), .inl (false, (-2147483648), (-1))], [(some (false, (-2), (-2)), [(0, []), (2, []), (3, []), (4, [])])], [], [(0, []), (2, []), (3, []), (4, [])])
set_option maxRecDepth 100000 in
theorem kw_M0_k : b_chk r_hk q_D kc_I r_fp 3000 kw_M0 [218] [] []
   [] = true := by decide +kernel
theorem kw_M0_a : bc_ok q_D kc_I (r_F kK 0) kw_M0 := b_chk_ok (r_hk_ok kc_Iok kK1) kc_srt (r_bgF kc_Iok) kw_M0_k ka_nil
def kw_M1 : b_Con := (219, [.inr (.inl 93), .inl (false, 3, 2147483647)], [(some (false, (-2), (-2)), [(0, []), (2, []), (3, []), (4, [])])], [], [(0, []), (2, []), (3, []), (4, [])])
set_option maxRecDepth 100000 in
theorem kw_M1_k : b_chk r_hk q_D kc_I r_fp 3000 kw_M1 [218] [] []
   [] = true := by decide +kernel
theorem kw_M1_a : bc_ok q_D kc_I (r_F kK 0) kw_M1 := b_chk_ok (r_hk_ok kc_Iok kK1) kc_srt (r_bgF kc_Iok) kw_M1_k ka_nil
theorem x_bkM {m0 m : q_M} (h : x_J m) (hg : x_sg m0 m) (u : Int32) : ∃ (n : Nat) (m1 : q_M), q_run q_D n q_m219 0 (lv_args 0 [.ref 93, .int u]) [] m = some (some (.int (x_bv m0 u)), m1) ∧ l_J m1 ∧ q_same [(94, 0, 276)] m m1 := by
  have u1 := Int32.le_toInt u
  have u2 := Int32.toInt_lt u
  have hM : (q_gM q_D)[219]? = some q_m219 := rfl
  obtain ⟨n, r, m1, r1, r2, r3, -⟩ := l_run1 (ka_458 0) (by decide +kernel) hM (ys := [.ref 93, .int u]) (zs := [u.toInt]) ⟨rfl, ⟨u, rfl, rfl⟩, by omega, by omega, rfl⟩ h.1
  unfold x_bv
  by_cases c0 : u.toInt < 0
  · obtain ⟨n2, m2, h1, -, -⟩ := l_exb kw_M0_a (by decide +kernel) (fun o h => by rw [List.mem_singleton.mp h]) hM (ys := [.ref 93, .int u]) (zs := [u.toInt]) ⟨rfl, ⟨u, rfl, rfl⟩, by omega, by omega, rfl⟩ h.1
    have e := x_det r1 h1
    cases e
    rw [if_pos (by omega)]
    exact ⟨n, _, r1, r2, r3⟩
  by_cases c1 : 2 < u.toInt
  · obtain ⟨n2, m2, h1, -, -⟩ := l_exb kw_M1_a (by decide +kernel) (fun o h => by rw [List.mem_singleton.mp h]) hM (ys := [.ref 93, .int u]) (zs := [u.toInt]) ⟨rfl, ⟨u, rfl, rfl⟩, by omega, by omega, rfl⟩ h.1
    have e := x_det r1 h1
    cases e
    rw [if_pos (by omega)]
    exact ⟨n, _, r1, r2, r3⟩
  rw [if_neg (by omega)]
  have hc : u.toInt = 0 ∨ u.toInt = 1 ∨ u.toInt = 2 := by omega
  rcases hc with hc | hc | hc
  · have hu : u = 0 := x_i32 (show u.toInt = (0 : Int32).toInt from hc)
    subst hu
    have hf : q_i m0 96 ((0 : Int32).toInt.toNat) = q_i m 96 0 := (hg.1 0 (by decide)).symm
    rw [hf]
    rcases x_fl h.1.1 (k := 0) (by decide) with c0 | c0
    · obtain ⟨n2, m2, h1⟩ := xb_M00_p h.1.1 h.1.2 c0
      have e := x_det r1 h1
      cases e
      rw [c0]
      exact ⟨n, _, r1, r2, r3⟩
    · obtain ⟨n2, m2, h1⟩ := xb_M01_p h.1.1 h.1.2 c0
      have e := x_det r1 h1
      cases e
      rw [c0]
      exact ⟨n, _, r1, r2, r3⟩
  · have hu : u = 1 := x_i32 (show u.toInt = (1 : Int32).toInt from hc)
    subst hu
    have hf : q_i m0 96 ((1 : Int32).toInt.toNat) = q_i m 96 1 := (hg.1 1 (by decide)).symm
    rw [hf]
    rcases x_fl h.1.1 (k := 1) (by decide) with c0 | c0
    · obtain ⟨n2, m2, h1⟩ := xb_M10_p h.1.1 h.1.2 c0
      have e := x_det r1 h1
      cases e
      rw [c0]
      exact ⟨n, _, r1, r2, r3⟩
    · obtain ⟨n2, m2, h1⟩ := xb_M11_p h.1.1 h.1.2 c0
      have e := x_det r1 h1
      cases e
      rw [c0]
      exact ⟨n, _, r1, r2, r3⟩
  · have hu : u = 2 := x_i32 (show u.toInt = (2 : Int32).toInt from hc)
    subst hu
    have hf : q_i m0 96 ((2 : Int32).toInt.toNat) = q_i m 96 2 := (hg.1 2 (by decide)).symm
    rw [hf]
    rcases x_fl h.1.1 (k := 2) (by decide) with c0 | c0
    · obtain ⟨n2, m2, h1⟩ := xb_M20_p h.1.1 h.1.2 c0
      have e := x_det r1 h1
      cases e
      rw [c0]
      exact ⟨n, _, r1, r2, r3⟩
    · obtain ⟨n2, m2, h1⟩ := xb_M21_p h.1.1 h.1.2 c0
      have e := x_det r1 h1
      cases e
      rw [c0]
      exact ⟨n, _, r1, r2, r3⟩
theorem x_okbC {a : Nat} {xs : Nat → Int32} {m0 : q_M}   : l_ok (x_I m0 (xs (a + 1)) (xs (a + 2)) (xs (a + 3))) a xs (fun _ => x_bv m0 (xs (a + 1))) (208, [(0, 0), (3, 1)], (7, 0), (0, 0)) := by
  intro m ys rest hp hs hr
  obtain ⟨M1, k1, k2⟩ := l_cal_ok (by decide +kernel : l_cal 208 [(0, 0), (3, 1)] = true) (show bi_M kc_I m from hp.1.1.1) hs hr
  have hM : (q_gM q_D)[208]? = some q_m208 := rfl
  have e : M1 = q_m208 := Option.some.inj (k1.symm.trans hM)
  subst e
  obtain ⟨y0, ys0, rfl, h0, hs⟩ := g_ca hs
  obtain ⟨y1, ys1, rfl, h1, hs⟩ := g_ca hs
  have e4 := g_na hs
  subst e4
  have h0 : y0 = .ref 0 := h0
  have h1 : y1 = .int (xs (a + 1)) := h1
  subst h0 h1
  obtain ⟨n, m1, r1, r2, r3⟩ := x_bkC hp.1 hp.2 (xs (a + 1))
  exact ⟨_, n, _, m1, k2, r1, x_of0 (by decide +kernel) m m1 hp r2 r3, rfl⟩
theorem x_okbM {a : Nat} {xs : Nat → Int32} {m0 : q_M}   : l_ok (x_I m0 (xs (a + 1)) (xs (a + 2)) (xs (a + 3))) a xs (fun _ => x_bv m0 (xs (a + 1))) (219, [(0, 93), (3, 1)], (7, 0), (0, 1)) := by
  intro m ys rest hp hs hr
  obtain ⟨M1, k1, k2⟩ := l_cal_ok (by decide +kernel : l_cal 219 [(0, 93), (3, 1)] = true) (show bi_M kc_I m from hp.1.1.1) hs hr
  have hM : (q_gM q_D)[219]? = some q_m219 := rfl
  have e : M1 = q_m219 := Option.some.inj (k1.symm.trans hM)
  subst e
  obtain ⟨y0, ys0, rfl, h0, hs⟩ := g_ca hs
  obtain ⟨y1, ys1, rfl, h1, hs⟩ := g_ca hs
  have e4 := g_na hs
  subst e4
  have h0 : y0 = .ref 93 := h0
  have h1 : y1 = .int (xs (a + 1)) := h1
  subst h0 h1
  obtain ⟨n, m1, r1, r2, r3⟩ := x_bkM hp.1 hp.2 (xs (a + 1))
  exact ⟨_, n, _, m1, k2, r1, x_of1 (by decide +kernel) m m1 hp r2 r3, rfl⟩

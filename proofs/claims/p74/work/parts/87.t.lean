/-! THE COMPARED CALL: contracts that say its answer exactly -/
theorem l_exb {c : b_Con} {x : Int} (hc : bc_ok q_D kc_I (r_F kK 0) c) (ht : l_tok c = true) (ho : ∀ o ∈ c.2.2.1, o.1 = some (false, x, x)) {M1 : q_MI} (hM : (q_gM q_D)[c.1]? = some M1) {ys : List Value} {zs : List Int} {m : q_M} (ha : bc_args c.2.1 ys zs) (hJ : l_J m) :
    ∃ (n : Nat) (m1 : q_M), q_run q_D n M1 0 (lv_args 0 ys) [] m = some (some (.int (Int32.ofInt x)), m1) ∧ l_J m1 ∧ q_same c.2.2.2.1 m m1 := by
  obtain ⟨n, r, m1, h1, h2, h3, o, o1, o2⟩ := l_run1 hc ht hM ha hJ
  have e := ho o o1
  unfold bc_out at o2
  rw [e] at o2
  cases r with
  | none => exact o2.elim
  | some y =>
    obtain ⟨z, ⟨w, rfl, w2⟩, z2, z3, -⟩ := o2
    have : Int32.ofInt x = w := by
      rw [show x = w.toInt by omega, Int32.ofInt_toInt]
    rw [this]
    exact ⟨n, m1, h1, h2, h3⟩
def x_apx (W : b_W) (c j : Nat) : Bool := W.all (fun w => !(Nat.beq w.1 c && decide (w.2.1 ≤ j ∧ j ≤ w.2.2)))
theorem x_sm {W : b_W} {m m1 : q_M} (hs : q_same W m m1) {c j : Nat} (h : x_apx W c j = true) : q_i m1 c j = q_i m c j := by
  have : ¬ b_plW W c j := by
    rintro ⟨w, hw, rfl, h1, h2⟩
    have h5 := List.all_eq_true.mp h w hw
    simp [h1, h2] at h5
  unfold q_i
  rw [hs c j this]
theorem x_nil {m m1 : q_M} (hs : q_same [] m m1) (c j : Nat) : q_i m1 c j = q_i m c j := x_sm hs rfl
theorem x_R_nil {m m1 : q_M} (hs : q_same [] m m1) (h : x_R m) : x_R m1 := x_R_off (W := []) rfl hs h
def x_rows (m : q_M) : Prop := ∀ s, s < 4 → q_i m (85 + 2 * s) 2 = q_i m 114 s ∧ q_i m (85 + 2 * s) 1 = q_i m 115 s
def x_ib (f0 f1 f2 u : Int) : Int := (if u = 0 then 1 else f0) + 2 * (if u = 1 then 1 else f1) + 4 * (if u = 2 then 1 else f2)
/-- behind the class's image, ahead of the model's -/
def x_Ri (u : Int32) (m : q_M) : Prop := q_i m 0 5 = x_ib (q_i m 96 0) (q_i m 96 1) (q_i m 96 2) u.toInt ∧ x_rows m
theorem x_ib_no {f0 f1 f2 u : Int} (h : u < 0 ∨ 2 < u) : x_ib f0 f1 f2 u = f0 + 2 * f1 + 4 * f2 := by
  unfold x_ib
  rw [if_neg (by omega), if_neg (by omega), if_neg (by omega)]
set_option maxRecDepth 100000 in
theorem x_fl {m : q_M} (hM : bi_M kc_I m) {k : Nat} (hk : k < 3) : q_i m 96 k = 0 ∨ q_i m 96 k = 1 := by
  obtain ⟨-, a, b⟩ := x_arr (c := 96) (j := k) hM rfl hk
  omega
theorem x_rows_sm {W : b_W} {m m1 : q_M} (hs : q_same W m m1) (h : (List.range 4).all (fun s => x_apx W (85 + 2 * s) 2 && (x_apx W (85 + 2 * s) 1 && (x_apx W 114 s && x_apx W 115 s))) = true) (hr : x_rows m) : x_rows m1 := by
  intro s h4
  have h1 := List.all_eq_true.mp h s (List.mem_range.mpr h4)
  simp only [Bool.and_eq_true] at h1
  rw [x_sm hs h1.1, x_sm hs h1.2.1, x_sm hs h1.2.2.1, x_sm hs h1.2.2.2]
  exact hr s h4
def kz_C0 : b_Con := (207, [.inr (.inl 0), .inl (false, (-2147483648), (-1))], [(some (false, (-2), (-2)), [])], [], [])
set_option maxRecDepth 100000 in
theorem kz_C0_k : b_chk r_hk q_D kc_I r_fp 3000 kz_C0 [] [kc_221, kc_222, kc_223] []
   [] = true := by decide +kernel
theorem kz_C0_a : bc_ok q_D kc_I (r_F kK 0) kz_C0 := b_chk_ok (r_hk_ok kc_Iok kK1) kc_srt (r_bgF kc_Iok) kz_C0_k (ka_cons (ka_221 0) (ka_cons (ka_222 0) (ka_cons (ka_223 0) ka_nil)))
def kz_C1 : b_Con := (207, [.inr (.inl 0), .inl (false, 3, 2147483647)], [(some (false, (-2), (-2)), [])], [], [])
set_option maxRecDepth 100000 in
theorem kz_C1_k : b_chk r_hk q_D kc_I r_fp 3000 kz_C1 [] [kc_221, kc_222, kc_223] []
   [] = true := by decide +kernel
theorem kz_C1_a : bc_ok q_D kc_I (r_F kK 0) kz_C1 := b_chk_ok (r_hk_ok kc_Iok kK1) kc_srt (r_bgF kc_Iok) kz_C1_k (ka_cons (ka_221 0) (ka_cons (ka_222 0) (ka_cons (ka_223 0) ka_nil)))
def kz_M0 : b_Con := (217, [.inr (.inl 93), .inl (false, (-2147483648), (-1))], [(some (false, (-2), (-2)), [(0, []), (2, []), (3, []), (4, [])])], [], [(0, []), (2, []), (3, []), (4, [])])
set_option maxRecDepth 100000 in
theorem kz_M0_k : b_chk r_hk q_D kc_I r_fp 3000 kz_M0 [218] [] []
   [] = true := by decide +kernel
theorem kz_M0_a : bc_ok q_D kc_I (r_F kK 0) kz_M0 := b_chk_ok (r_hk_ok kc_Iok kK1) kc_srt (r_bgF kc_Iok) kz_M0_k ka_nil
def kz_M1 : b_Con := (217, [.inr (.inl 93), .inl (false, 3, 2147483647)], [(some (false, (-2), (-2)), [(0, []), (2, []), (3, []), (4, [])])], [], [(0, []), (2, []), (3, []), (4, [])])
set_option maxRecDepth 100000 in
theorem kz_M1_k : b_chk r_hk q_D kc_I r_fp 3000 kz_M1 [218] [] []
   [] = true := by decide +kernel
theorem kz_M1_a : bc_ok q_D kc_I (r_F kK 0) kz_M1 := b_chk_ok (r_hk_ok kc_Iok kK1) kc_srt (r_bgF kc_Iok) kz_M1_k ka_nil
theorem x_imgC0 {m : q_M} (hM : bi_M kc_I m) (hr : q_i m 0 5 = q_i m 96 0 + 2 * q_i m 96 1 + 4 * q_i m 96 2) : ∃ (n : Nat) (m1 : q_M), q_run q_D n q_m207 0 (lv_args 0 [.ref 0, .int 0]) [] m = some (some (.int 0), m1) ∧ q_same [(0, 5, 5), (49, 0, 0), (49, 1, 1), (49, 2, 2), (49, 3, 3), (49, 4, 4), (49, 5, 5), (49, 6, 6), (50, 0, 19), (51, 0, 19), (52, 0, 19), (53, 0, 19), (54, 0, 19), (55, 0, 19), (56, 0, 5), (57, 0, 5), (58, 0, 5), (59, 0, 5), (60, 0, 119)] m m1 ∧ q_i m1 0 5 = x_ib (q_i m 96 0) (q_i m 96 1) (q_i m 96 2) 0 := by
  rcases x_fl hM (k := 0) (by decide) with c0 | c0 <;> rcases x_fl hM (k := 1) (by decide) with c1 | c1 <;> rcases x_fl hM (k := 2) (by decide) with c2 | c2
  · obtain ⟨n, m1, h1, h2, h3, h4⟩ := xi_C00_p hM (by omega)
    exact ⟨n, m1, h1, h3, by rw [h4, c0, c1, c2]; decide⟩
  · obtain ⟨n, m1, h1, h2, h3, h4⟩ := xi_C04_p hM (by omega)
    exact ⟨n, m1, h1, h3, by rw [h4, c0, c1, c2]; decide⟩
  · obtain ⟨n, m1, h1, h2, h3, h4⟩ := xi_C02_p hM (by omega)
    exact ⟨n, m1, h1, h3, by rw [h4, c0, c1, c2]; decide⟩
  · obtain ⟨n, m1, h1, h2, h3, h4⟩ := xi_C06_p hM (by omega)
    exact ⟨n, m1, h1, h3, by rw [h4, c0, c1, c2]; decide⟩
  · obtain ⟨n, m1, h1, h2, h3, h4⟩ := xi_C01_p hM (by omega)
    exact ⟨n, m1, h1, h3, by rw [h4, c0, c1, c2]; decide⟩
  · obtain ⟨n, m1, h1, h2, h3, h4⟩ := xi_C05_p hM (by omega)
    exact ⟨n, m1, h1, h3, by rw [h4, c0, c1, c2]; decide⟩
  · obtain ⟨n, m1, h1, h2, h3, h4⟩ := xi_C03_p hM (by omega)
    exact ⟨n, m1, h1, h3, by rw [h4, c0, c1, c2]; decide⟩
  · obtain ⟨n, m1, h1, h2, h3, h4⟩ := xi_C07_p hM (by omega)
    exact ⟨n, m1, h1, h3, by rw [h4, c0, c1, c2]; decide⟩
theorem x_imgC1 {m : q_M} (hM : bi_M kc_I m) (hr : q_i m 0 5 = q_i m 96 0 + 2 * q_i m 96 1 + 4 * q_i m 96 2) : ∃ (n : Nat) (m1 : q_M), q_run q_D n q_m207 0 (lv_args 0 [.ref 0, .int 1]) [] m = some (some (.int 0), m1) ∧ q_same [(0, 5, 5), (61, 0, 0), (61, 1, 1), (61, 2, 2), (61, 3, 3), (61, 4, 4), (61, 5, 5), (61, 6, 6), (62, 0, 19), (63, 0, 19), (64, 0, 19), (65, 0, 19), (66, 0, 19), (67, 0, 19), (68, 0, 5), (69, 0, 5), (70, 0, 5), (71, 0, 5), (72, 0, 119)] m m1 ∧ q_i m1 0 5 = x_ib (q_i m 96 0) (q_i m 96 1) (q_i m 96 2) 1 := by
  rcases x_fl hM (k := 0) (by decide) with c0 | c0 <;> rcases x_fl hM (k := 1) (by decide) with c1 | c1 <;> rcases x_fl hM (k := 2) (by decide) with c2 | c2
  · obtain ⟨n, m1, h1, h2, h3, h4⟩ := xi_C10_p hM (by omega)
    exact ⟨n, m1, h1, h3, by rw [h4, c0, c1, c2]; decide⟩
  · obtain ⟨n, m1, h1, h2, h3, h4⟩ := xi_C14_p hM (by omega)
    exact ⟨n, m1, h1, h3, by rw [h4, c0, c1, c2]; decide⟩
  · obtain ⟨n, m1, h1, h2, h3, h4⟩ := xi_C12_p hM (by omega)
    exact ⟨n, m1, h1, h3, by rw [h4, c0, c1, c2]; decide⟩
  · obtain ⟨n, m1, h1, h2, h3, h4⟩ := xi_C16_p hM (by omega)
    exact ⟨n, m1, h1, h3, by rw [h4, c0, c1, c2]; decide⟩
  · obtain ⟨n, m1, h1, h2, h3, h4⟩ := xi_C11_p hM (by omega)
    exact ⟨n, m1, h1, h3, by rw [h4, c0, c1, c2]; decide⟩
  · obtain ⟨n, m1, h1, h2, h3, h4⟩ := xi_C15_p hM (by omega)
    exact ⟨n, m1, h1, h3, by rw [h4, c0, c1, c2]; decide⟩
  · obtain ⟨n, m1, h1, h2, h3, h4⟩ := xi_C13_p hM (by omega)
    exact ⟨n, m1, h1, h3, by rw [h4, c0, c1, c2]; decide⟩
  · obtain ⟨n, m1, h1, h2, h3, h4⟩ := xi_C17_p hM (by omega)
    exact ⟨n, m1, h1, h3, by rw [h4, c0, c1, c2]; decide⟩
theorem x_imgC2 {m : q_M} (hM : bi_M kc_I m) (hr : q_i m 0 5 = q_i m 96 0 + 2 * q_i m 96 1 + 4 * q_i m 96 2) : ∃ (n : Nat) (m1 : q_M), q_run q_D n q_m207 0 (lv_args 0 [.ref 0, .int 2]) [] m = some (some (.int 0), m1) ∧ q_same [(0, 5, 5), (73, 0, 0), (73, 1, 1), (73, 2, 2), (73, 3, 3), (73, 4, 4), (73, 5, 5), (73, 6, 6), (74, 0, 19), (75, 0, 19), (76, 0, 19), (77, 0, 19), (78, 0, 19), (79, 0, 19), (80, 0, 5), (81, 0, 5), (82, 0, 5), (83, 0, 5), (84, 0, 119)] m m1 ∧ q_i m1 0 5 = x_ib (q_i m 96 0) (q_i m 96 1) (q_i m 96 2) 2 := by
  rcases x_fl hM (k := 0) (by decide) with c0 | c0 <;> rcases x_fl hM (k := 1) (by decide) with c1 | c1 <;> rcases x_fl hM (k := 2) (by decide) with c2 | c2
  · obtain ⟨n, m1, h1, h2, h3, h4⟩ := xi_C20_p hM (by omega)
    exact ⟨n, m1, h1, h3, by rw [h4, c0, c1, c2]; decide⟩
  · obtain ⟨n, m1, h1, h2, h3, h4⟩ := xi_C24_p hM (by omega)
    exact ⟨n, m1, h1, h3, by rw [h4, c0, c1, c2]; decide⟩
  · obtain ⟨n, m1, h1, h2, h3, h4⟩ := xi_C22_p hM (by omega)
    exact ⟨n, m1, h1, h3, by rw [h4, c0, c1, c2]; decide⟩
  · obtain ⟨n, m1, h1, h2, h3, h4⟩ := xi_C26_p hM (by omega)
    exact ⟨n, m1, h1, h3, by rw [h4, c0, c1, c2]; decide⟩
  · obtain ⟨n, m1, h1, h2, h3, h4⟩ := xi_C21_p hM (by omega)
    exact ⟨n, m1, h1, h3, by rw [h4, c0, c1, c2]; decide⟩
  · obtain ⟨n, m1, h1, h2, h3, h4⟩ := xi_C25_p hM (by omega)
    exact ⟨n, m1, h1, h3, by rw [h4, c0, c1, c2]; decide⟩
  · obtain ⟨n, m1, h1, h2, h3, h4⟩ := xi_C23_p hM (by omega)
    exact ⟨n, m1, h1, h3, by rw [h4, c0, c1, c2]; decide⟩
  · obtain ⟨n, m1, h1, h2, h3, h4⟩ := xi_C27_p hM (by omega)
    exact ⟨n, m1, h1, h3, by rw [h4, c0, c1, c2]; decide⟩
theorem x_imgC {m : q_M} (h : x_J m) (u : Int32) : ∃ (n : Nat) (r : Int32) (m1 : q_M), q_run q_D n q_m207 0 (lv_args 0 [.ref 0, .int u]) [] m = some (some (.int r), m1) ∧ l_J m1 ∧ x_Ri u m1 := by
  have u1 := Int32.le_toInt u
  have u2 := Int32.toInt_lt u
  have hM : (q_gM q_D)[207]? = some q_m207 := rfl
  by_cases c0 : u.toInt < 0
  · obtain ⟨n, m1, h1, h2, h3⟩ := l_exb kz_C0_a (by decide +kernel) (fun o h => by rw [List.mem_singleton.mp h]) hM (ys := [.ref 0, .int u]) (zs := [u.toInt]) ⟨rfl, ⟨u, rfl, rfl⟩, by omega, by omega, rfl⟩ h.1
    have hx := x_R_nil h3 h.2
    exact ⟨n, _, m1, h1, h2, by rw [x_ib_no (by omega)]; exact hx.1, hx.2⟩
  by_cases c1 : 2 < u.toInt
  · obtain ⟨n, m1, h1, h2, h3⟩ := l_exb kz_C1_a (by decide +kernel) (fun o h => by rw [List.mem_singleton.mp h]) hM (ys := [.ref 0, .int u]) (zs := [u.toInt]) ⟨rfl, ⟨u, rfl, rfl⟩, by omega, by omega, rfl⟩ h.1
    have hx := x_R_nil h3 h.2
    exact ⟨n, _, m1, h1, h2, by rw [x_ib_no (by omega)]; exact hx.1, hx.2⟩
  obtain ⟨n, r, m1, r1, r2, -, -⟩ := l_run1 (ka_224 0) (by decide +kernel) hM (ys := [.ref 0, .int u]) (zs := [u.toInt]) ⟨rfl, ⟨u, rfl, rfl⟩, by omega, by omega, rfl⟩ h.1
  have hc : u.toInt = 0 ∨ u.toInt = 1 ∨ u.toInt = 2 := by omega
  rcases hc with hc | hc | hc
  · have hu : u = 0 := x_i32 (show u.toInt = (0 : Int32).toInt from hc)
    subst hu
    obtain ⟨n2, m2, h1, h3, h4⟩ := x_imgC0 h.1.1 h.2.1
    have e := x_det r1 h1
    cases e
    refine ⟨n, 0, _, r1, r2, ?_, x_rows_sm h3 (by decide +kernel) h.2.2⟩
    rw [h4, x_sm h3 (c := 96) (j := 0) (by decide +kernel), x_sm h3 (c := 96) (j := 1) (by decide +kernel), x_sm h3 (c := 96) (j := 2) (by decide +kernel)]
    rfl
  · have hu : u = 1 := x_i32 (show u.toInt = (1 : Int32).toInt from hc)
    subst hu
    obtain ⟨n2, m2, h1, h3, h4⟩ := x_imgC1 h.1.1 h.2.1
    have e := x_det r1 h1
    cases e
    refine ⟨n, 0, _, r1, r2, ?_, x_rows_sm h3 (by decide +kernel) h.2.2⟩
    rw [h4, x_sm h3 (c := 96) (j := 0) (by decide +kernel), x_sm h3 (c := 96) (j := 1) (by decide +kernel), x_sm h3 (c := 96) (j := 2) (by decide +kernel)]
    rfl
  · have hu : u = 2 := x_i32 (show u.toInt = (2 : Int32).toInt from hc)
    subst hu
    obtain ⟨n2, m2, h1, h3, h4⟩ := x_imgC2 h.1.1 h.2.1
    have e := x_det r1 h1
    cases e
    refine ⟨n, 0, _, r1, r2, ?_, x_rows_sm h3 (by decide +kernel) h.2.2⟩
    rw [h4, x_sm h3 (c := 96) (j := 0) (by decide +kernel), x_sm h3 (c := 96) (j := 1) (by decide +kernel), x_sm h3 (c := 96) (j := 2) (by decide +kernel)]
    rfl
theorem x_imgM {m : q_M} (h : l_J m) (u : Int32) (hr : x_Ri u m) : ∃ (n : Nat) (r : Int32) (m1 : q_M), q_run q_D n q_m217 0 (lv_args 0 [.ref 93, .int u]) [] m = some (some (.int r), m1) ∧ x_J m1 := by
  have u1 := Int32.le_toInt u
  have u2 := Int32.toInt_lt u
  have hM : (q_gM q_D)[217]? = some q_m217 := rfl
  by_cases c0 : u.toInt < 0
  · obtain ⟨n, m1, h1, h2, h3⟩ := l_exb kz_M0_a (by decide +kernel) (fun o h => by rw [List.mem_singleton.mp h]) hM (ys := [.ref 93, .int u]) (zs := [u.toInt]) ⟨rfl, ⟨u, rfl, rfl⟩, by omega, by omega, rfl⟩ h
    have e := hr.1
    rw [x_ib_no (by omega)] at e
    exact ⟨n, _, m1, h1, h2, x_R_nil h3 ⟨e, hr.2⟩⟩
  by_cases c1 : 2 < u.toInt
  · obtain ⟨n, m1, h1, h2, h3⟩ := l_exb kz_M1_a (by decide +kernel) (fun o h => by rw [List.mem_singleton.mp h]) hM (ys := [.ref 93, .int u]) (zs := [u.toInt]) ⟨rfl, ⟨u, rfl, rfl⟩, by omega, by omega, rfl⟩ h
    have e := hr.1
    rw [x_ib_no (by omega)] at e
    exact ⟨n, _, m1, h1, h2, x_R_nil h3 ⟨e, hr.2⟩⟩
  obtain ⟨n, r, m1, r1, r2, -, -⟩ := l_run1 (ka_457 0) (by decide +kernel) hM (ys := [.ref 93, .int u]) (zs := [u.toInt]) ⟨rfl, ⟨u, rfl, rfl⟩, by omega, by omega, rfl⟩ h
  have hc : u.toInt = 0 ∨ u.toInt = 1 ∨ u.toInt = 2 := by omega
  rcases hc with hc | hc | hc
  · have hu : u = 0 := x_i32 (show u.toInt = (0 : Int32).toInt from hc)
    subst hu
    obtain ⟨n2, m2, h1, h2, h3, h4⟩ := xi_M0_p h.1
    have e := x_det r1 h1
    cases e
    refine ⟨n, 0, _, r1, r2, ?_, x_rows_sm h3 (by decide +kernel) hr.2⟩
    have e := hr.1
    rw [x_sm h3 (c := 0) (j := 5) (by decide +kernel), h4, x_sm h3 (c := 96) (j := 1) (by decide +kernel), x_sm h3 (c := 96) (j := 2) (by decide +kernel), e]
    rfl
  · have hu : u = 1 := x_i32 (show u.toInt = (1 : Int32).toInt from hc)
    subst hu
    obtain ⟨n2, m2, h1, h2, h3, h4⟩ := xi_M1_p h.1
    have e := x_det r1 h1
    cases e
    refine ⟨n, 0, _, r1, r2, ?_, x_rows_sm h3 (by decide +kernel) hr.2⟩
    have e := hr.1
    rw [x_sm h3 (c := 0) (j := 5) (by decide +kernel), h4, x_sm h3 (c := 96) (j := 0) (by decide +kernel), x_sm h3 (c := 96) (j := 2) (by decide +kernel), e]
    rfl
  · have hu : u = 2 := x_i32 (show u.toInt = (2 : Int32).toInt from hc)
    subst hu
    obtain ⟨n2, m2, h1, h2, h3, h4⟩ := xi_M2_p h.1
    have e := x_det r1 h1
    cases e
    refine ⟨n, 0, _, r1, r2, ?_, x_rows_sm h3 (by decide +kernel) hr.2⟩
    have e := hr.1
    rw [x_sm h3 (c := 0) (j := 5) (by decide +kernel), h4, x_sm h3 (c := 96) (j := 0) (by decide +kernel), x_sm h3 (c := 96) (j := 1) (by decide +kernel), e]
    rfl
def ky_C0 : b_Con := (209, [.inr (.inl 0), .inl (false, (-2147483648), (-1)), .inl (false, (-2147483648), 2147483647), .inl (false, (-2147483648), 2147483647)], [(some (false, (-2), (-2)), [])], [], [])
set_option maxRecDepth 100000 in
theorem ky_C0_k : b_chk r_hk q_D kc_I r_fp 3000 ky_C0 [142] [kc_230, kc_232, kc_234, kc_236] []
   [] = true := by decide +kernel
theorem ky_C0_a : bc_ok q_D kc_I (r_F kK 0) ky_C0 := b_chk_ok (r_hk_ok kc_Iok kK1) kc_srt (r_bgF kc_Iok) ky_C0_k (ka_cons (ka_230 0) (ka_cons (ka_232 0) (ka_cons (ka_234 0) (ka_cons (ka_236 0) ka_nil))))
def ky_C1 : b_Con := (209, [.inr (.inl 0), .inl (false, 4, 2147483647), .inl (false, (-2147483648), 2147483647), .inl (false, (-2147483648), 2147483647)], [(some (false, (-2), (-2)), [])], [], [])
set_option maxRecDepth 100000 in
theorem ky_C1_k : b_chk r_hk q_D kc_I r_fp 3000 ky_C1 [142] [kc_230, kc_232, kc_234, kc_236] []
   [] = true := by decide +kernel
theorem ky_C1_a : bc_ok q_D kc_I (r_F kK 0) ky_C1 := b_chk_ok (r_hk_ok kc_Iok kK1) kc_srt (r_bgF kc_Iok) ky_C1_k (ka_cons (ka_230 0) (ka_cons (ka_232 0) (ka_cons (ka_234 0) (ka_cons (ka_236 0) ka_nil))))
def ky_C2 : b_Con := (209, [.inr (.inl 0), .inl (false, 0, 3), .inl (false, (-2147483648), (-1)), .inl (false, (-2147483648), 2147483647)], [(some (false, (-2), (-2)), [])], [], [])
set_option maxRecDepth 100000 in
theorem ky_C2_k : b_chk r_hk q_D kc_I r_fp 3000 ky_C2 [142] [kc_230, kc_232, kc_234, kc_236] []
   [] = true := by decide +kernel
theorem ky_C2_a : bc_ok q_D kc_I (r_F kK 0) ky_C2 := b_chk_ok (r_hk_ok kc_Iok kK1) kc_srt (r_bgF kc_Iok) ky_C2_k (ka_cons (ka_230 0) (ka_cons (ka_232 0) (ka_cons (ka_234 0) (ka_cons (ka_236 0) ka_nil))))
def ky_C3 : b_Con := (209, [.inr (.inl 0), .inl (false, 0, 3), .inl (false, 4, 2147483647), .inl (false, (-2147483648), 2147483647)], [(some (false, (-2), (-2)), [])], [], [])
set_option maxRecDepth 100000 in
theorem ky_C3_k : b_chk r_hk q_D kc_I r_fp 3000 ky_C3 [142] [kc_230, kc_232, kc_234, kc_236] []
   [] = true := by decide +kernel
theorem ky_C3_a : bc_ok q_D kc_I (r_F kK 0) ky_C3 := b_chk_ok (r_hk_ok kc_Iok kK1) kc_srt (r_bgF kc_Iok) ky_C3_k (ka_cons (ka_230 0) (ka_cons (ka_232 0) (ka_cons (ka_234 0) (ka_cons (ka_236 0) ka_nil))))
def ky_C4 : b_Con := (209, [.inr (.inl 0), .inl (false, 0, 3), .inl (false, 0, 3), .inl (false, 61, 2147483647)], [(some (false, (-2), (-2)), [])], [], [])
set_option maxRecDepth 100000 in
theorem ky_C4_k : b_chk r_hk q_D kc_I r_fp 3000 ky_C4 [142] [kc_230, kc_232, kc_234, kc_236] []
   [] = true := by decide +kernel
theorem ky_C4_a : bc_ok q_D kc_I (r_F kK 0) ky_C4 := b_chk_ok (r_hk_ok kc_Iok kK1) kc_srt (r_bgF kc_Iok) ky_C4_k (ka_cons (ka_230 0) (ka_cons (ka_232 0) (ka_cons (ka_234 0) (ka_cons (ka_236 0) ka_nil))))
def ky_C5 : b_Con := (209, [.inr (.inl 0), .inl (false, 0, 3), .inl (false, 0, 3), .inl (false, (-2147483648), (-1))], [(some (false, (-3), (-3)), [])], [], [])
set_option maxRecDepth 100000 in
theorem ky_C5_k : b_chk r_hk q_D kc_I r_fp 3000 ky_C5 [142] [kc_230, kc_232, kc_234, kc_236] []
   [] = true := by decide +kernel
theorem ky_C5_a : bc_ok q_D kc_I (r_F kK 0) ky_C5 := b_chk_ok (r_hk_ok kc_Iok kK1) kc_srt (r_bgF kc_Iok) ky_C5_k (ka_cons (ka_230 0) (ka_cons (ka_232 0) (ka_cons (ka_234 0) (ka_cons (ka_236 0) ka_nil))))
def ky_M0 : b_Con := (366, [.inr (.inl 93), .inl (false, (-2147483648), (-1)), .inl (false, (-2147483648), 2147483647), .inl (false, (-2147483648), 2147483647)], [(some (false, (-2), (-2)), [])], [], [])
set_option maxRecDepth 100000 in
theorem ky_M0_k : b_chk r_hk q_D kc_I r_fp 3000 ky_M0 [218, 294] [] []
   [] = true := by decide +kernel
theorem ky_M0_a : bc_ok q_D kc_I (r_F kK 0) ky_M0 := b_chk_ok (r_hk_ok kc_Iok kK1) kc_srt (r_bgF kc_Iok) ky_M0_k ka_nil
def ky_M1 : b_Con := (366, [.inr (.inl 93), .inl (false, 4, 2147483647), .inl (false, (-2147483648), 2147483647), .inl (false, (-2147483648), 2147483647)], [(some (false, (-2), (-2)), [])], [], [])
set_option maxRecDepth 100000 in
theorem ky_M1_k : b_chk r_hk q_D kc_I r_fp 3000 ky_M1 [218, 294] [] []
   [] = true := by decide +kernel
theorem ky_M1_a : bc_ok q_D kc_I (r_F kK 0) ky_M1 := b_chk_ok (r_hk_ok kc_Iok kK1) kc_srt (r_bgF kc_Iok) ky_M1_k ka_nil
def ky_M2 : b_Con := (366, [.inr (.inl 93), .inl (false, 0, 3), .inl (false, (-2147483648), (-1)), .inl (false, (-2147483648), 2147483647)], [(some (false, (-2), (-2)), [])], [], [])
set_option maxRecDepth 100000 in
theorem ky_M2_k : b_chk r_hk q_D kc_I r_fp 3000 ky_M2 [218, 294] [] []
   [] = true := by decide +kernel
theorem ky_M2_a : bc_ok q_D kc_I (r_F kK 0) ky_M2 := b_chk_ok (r_hk_ok kc_Iok kK1) kc_srt (r_bgF kc_Iok) ky_M2_k ka_nil
def ky_M3 : b_Con := (366, [.inr (.inl 93), .inl (false, 0, 3), .inl (false, 4, 2147483647), .inl (false, (-2147483648), 2147483647)], [(some (false, (-2), (-2)), [])], [], [])
set_option maxRecDepth 100000 in
theorem ky_M3_k : b_chk r_hk q_D kc_I r_fp 3000 ky_M3 [218, 294] [] []
   [] = true := by decide +kernel
theorem ky_M3_a : bc_ok q_D kc_I (r_F kK 0) ky_M3 := b_chk_ok (r_hk_ok kc_Iok kK1) kc_srt (r_bgF kc_Iok) ky_M3_k ka_nil
def ky_M4 : b_Con := (366, [.inr (.inl 93), .inl (false, 0, 3), .inl (false, 0, 3), .inl (false, 61, 2147483647)], [(some (false, (-2), (-2)), [])], [], [])
set_option maxRecDepth 100000 in
theorem ky_M4_k : b_chk r_hk q_D kc_I r_fp 3000 ky_M4 [218, 294] [] []
   [] = true := by decide +kernel
theorem ky_M4_a : bc_ok q_D kc_I (r_F kK 0) ky_M4 := b_chk_ok (r_hk_ok kc_Iok kK1) kc_srt (r_bgF kc_Iok) ky_M4_k ka_nil
def ky_M5 : b_Con := (366, [.inr (.inl 93), .inl (false, 0, 3), .inl (false, 0, 3), .inl (false, (-2147483648), (-1))], [(some (false, (-3), (-3)), [])], [], [])
set_option maxRecDepth 100000 in
theorem ky_M5_k : b_chk r_hk q_D kc_I r_fp 3000 ky_M5 [218, 294] [] []
   [] = true := by decide +kernel
theorem ky_M5_a : bc_ok q_D kc_I (r_F kK 0) ky_M5 := b_chk_ok (r_hk_ok kc_Iok kK1) kc_srt (r_bgF kc_Iok) ky_M5_k ka_nil
def x_val (s w n : Int32) : Prop := 0 ≤ s.toInt ∧ s.toInt ≤ 3 ∧ 0 ≤ w.toInt ∧ w.toInt ≤ 3 ∧ 0 ≤ n.toInt ∧ n.toInt ≤ 60
def x_im (m : q_M) : Prop := q_i m 0 5 = q_i m 96 0 + 2 * q_i m 96 1 + 4 * q_i m 96 2
/-- behind the class's row, ahead of the model's -/
def x_Rr (s0 w n : Int32) (m : q_M) : Prop := x_im m ∧ ∀ s : Nat, s < 4 → (x_val s0 w n ∧ s0.toInt = (s : Int) → q_i m (85 + 2 * s) 2 = n.toInt ∧ q_i m (85 + 2 * s) 1 = w.toInt) ∧ (¬ (x_val s0 w n ∧ s0.toInt = (s : Int)) → q_i m (85 + 2 * s) 2 = q_i m 114 s ∧ q_i m (85 + 2 * s) 1 = q_i m 115 s)
theorem x_im_sm {W : b_W} {m m1 : q_M} (hs : q_same W m m1) (h : (x_apx W 0 5 && (x_apx W 96 0 && (x_apx W 96 1 && x_apx W 96 2))) = true) (hr : x_im m) : x_im m1 := by
  simp only [Bool.and_eq_true] at h
  unfold x_im
  rw [x_sm hs h.1, x_sm hs h.2.1, x_sm hs h.2.2.1, x_sm hs h.2.2.2]
  exact hr
theorem x_rowC {m : q_M} (h : x_J m) (u v w : Int32) : ∃ (n : Nat) (r : Int32) (m1 : q_M), q_run q_D n q_m209 0 (lv_args 0 [.ref 0, .int u, .int v, .int w]) [] m = some (some (.int r), m1) ∧ l_J m1 ∧ x_Rr u v w m1 := by
  have u1 := Int32.le_toInt u
  have u2 := Int32.toInt_lt u
  have v1 := Int32.le_toInt v
  have v2 := Int32.toInt_lt v
  have w1 := Int32.le_toInt w
  have w2 := Int32.toInt_lt w
  have hM : (q_gM q_D)[209]? = some q_m209 := rfl
  have hJ := h.1
  by_cases c0 : u.toInt < 0
  · obtain ⟨n, m1, h1, h2, h3⟩ := l_exb ky_C0_a (by decide +kernel) (fun o h => by rw [List.mem_singleton.mp h]) hM (ys := [.ref 0, .int u, .int v, .int w]) (zs := [u.toInt, v.toInt, w.toInt]) ⟨rfl, ⟨u, rfl, rfl⟩, by omega, by omega, ⟨v, rfl, rfl⟩, by omega, by omega, ⟨w, rfl, rfl⟩, by omega, by omega, rfl⟩ hJ
    have hx := x_R_nil h3 h.2
    exact ⟨n, _, m1, h1, h2, hx.1, fun s hs => ⟨fun q => by have := q.1; unfold x_val at this; omega, fun _ => hx.2 s hs⟩⟩
  by_cases c1 : 3 < u.toInt
  · obtain ⟨n, m1, h1, h2, h3⟩ := l_exb ky_C1_a (by decide +kernel) (fun o h => by rw [List.mem_singleton.mp h]) hM (ys := [.ref 0, .int u, .int v, .int w]) (zs := [u.toInt, v.toInt, w.toInt]) ⟨rfl, ⟨u, rfl, rfl⟩, by omega, by omega, ⟨v, rfl, rfl⟩, by omega, by omega, ⟨w, rfl, rfl⟩, by omega, by omega, rfl⟩ hJ
    have hx := x_R_nil h3 h.2
    exact ⟨n, _, m1, h1, h2, hx.1, fun s hs => ⟨fun q => by have := q.1; unfold x_val at this; omega, fun _ => hx.2 s hs⟩⟩
  by_cases c2 : v.toInt < 0
  · obtain ⟨n, m1, h1, h2, h3⟩ := l_exb ky_C2_a (by decide +kernel) (fun o h => by rw [List.mem_singleton.mp h]) hM (ys := [.ref 0, .int u, .int v, .int w]) (zs := [u.toInt, v.toInt, w.toInt]) ⟨rfl, ⟨u, rfl, rfl⟩, by omega, by omega, ⟨v, rfl, rfl⟩, by omega, by omega, ⟨w, rfl, rfl⟩, by omega, by omega, rfl⟩ hJ
    have hx := x_R_nil h3 h.2
    exact ⟨n, _, m1, h1, h2, hx.1, fun s hs => ⟨fun q => by have := q.1; unfold x_val at this; omega, fun _ => hx.2 s hs⟩⟩
  by_cases c3 : 3 < v.toInt
  · obtain ⟨n, m1, h1, h2, h3⟩ := l_exb ky_C3_a (by decide +kernel) (fun o h => by rw [List.mem_singleton.mp h]) hM (ys := [.ref 0, .int u, .int v, .int w]) (zs := [u.toInt, v.toInt, w.toInt]) ⟨rfl, ⟨u, rfl, rfl⟩, by omega, by omega, ⟨v, rfl, rfl⟩, by omega, by omega, ⟨w, rfl, rfl⟩, by omega, by omega, rfl⟩ hJ
    have hx := x_R_nil h3 h.2
    exact ⟨n, _, m1, h1, h2, hx.1, fun s hs => ⟨fun q => by have := q.1; unfold x_val at this; omega, fun _ => hx.2 s hs⟩⟩
  by_cases c4 : 60 < w.toInt
  · obtain ⟨n, m1, h1, h2, h3⟩ := l_exb ky_C4_a (by decide +kernel) (fun o h => by rw [List.mem_singleton.mp h]) hM (ys := [.ref 0, .int u, .int v, .int w]) (zs := [u.toInt, v.toInt, w.toInt]) ⟨rfl, ⟨u, rfl, rfl⟩, by omega, by omega, ⟨v, rfl, rfl⟩, by omega, by omega, ⟨w, rfl, rfl⟩, by omega, by omega, rfl⟩ hJ
    have hx := x_R_nil h3 h.2
    exact ⟨n, _, m1, h1, h2, hx.1, fun s hs => ⟨fun q => by have := q.1; unfold x_val at this; omega, fun _ => hx.2 s hs⟩⟩
  by_cases c5 : w.toInt < 0
  · obtain ⟨n, m1, h1, h2, h3⟩ := l_exb ky_C5_a (by decide +kernel) (fun o h => by rw [List.mem_singleton.mp h]) hM (ys := [.ref 0, .int u, .int v, .int w]) (zs := [u.toInt, v.toInt, w.toInt]) ⟨rfl, ⟨u, rfl, rfl⟩, by omega, by omega, ⟨v, rfl, rfl⟩, by omega, by omega, ⟨w, rfl, rfl⟩, by omega, by omega, rfl⟩ hJ
    have hx := x_R_nil h3 h.2
    exact ⟨n, _, m1, h1, h2, hx.1, fun s hs => ⟨fun q => by have := q.1; unfold x_val at this; omega, fun _ => hx.2 s hs⟩⟩
  obtain ⟨n, r, m1, r1, r2, -, -⟩ := l_run1 (ka_237 0) (by decide +kernel) hM (ys := [.ref 0, .int u, .int v, .int w]) (zs := [u.toInt, v.toInt, w.toInt]) ⟨rfl, ⟨u, rfl, rfl⟩, by omega, by omega, ⟨v, rfl, rfl⟩, by omega, by omega, ⟨w, rfl, rfl⟩, by omega, by omega, rfl⟩ hJ
  have hc : u.toInt = 0 ∨ u.toInt = 1 ∨ u.toInt = 2 ∨ u.toInt = 3 := by omega
  rcases hc with hc | hc | hc | hc
  · have hu : u = 0 := x_i32 (show u.toInt = (0 : Int32).toInt from hc)
    subst hu
    obtain ⟨n2, m2, a1, -, a3, a4⟩ := xr_C02_p h.1.1 v w (by omega) (by omega) (by omega) (by omega)
    have e := x_det r1 a1
    cases e
    obtain ⟨n3, m3, b1, -, b3, b4⟩ := xr_C01_p h.1.1 v w (by omega) (by omega) (by omega) (by omega)
    have e := x_det r1 b1
    cases e
    refine ⟨n, 0, _, r1, r2, x_im_sm a3 (by decide +kernel) h.2.1, fun s hs => ?_⟩
    have h4 : s = 0 ∨ s = 1 ∨ s = 2 ∨ s = 3 := by omega
    have hr := h.2.2 s hs
    rcases h4 with rfl | rfl | rfl | rfl
    · exact ⟨fun _ => ⟨a4, b4⟩, fun q => absurd ⟨⟨by decide, by decide, by omega, by omega, by omega, by omega⟩, rfl⟩ q⟩
    · refine ⟨fun q => absurd q.2 (by decide), fun _ => ?_⟩
      have e1 := x_sm a3 (c := 87) (j := 2) (by decide +kernel)
      have e2 := x_sm a3 (c := 87) (j := 1) (by decide +kernel)
      have e3 := x_sm a3 (c := 114) (j := 1) (by decide +kernel)
      have e4 := x_sm a3 (c := 115) (j := 1) (by decide +kernel)
      exact ⟨(e1.trans hr.1).trans e3.symm, (e2.trans hr.2).trans e4.symm⟩
    · refine ⟨fun q => absurd q.2 (by decide), fun _ => ?_⟩
      have e1 := x_sm a3 (c := 89) (j := 2) (by decide +kernel)
      have e2 := x_sm a3 (c := 89) (j := 1) (by decide +kernel)
      have e3 := x_sm a3 (c := 114) (j := 2) (by decide +kernel)
      have e4 := x_sm a3 (c := 115) (j := 2) (by decide +kernel)
      exact ⟨(e1.trans hr.1).trans e3.symm, (e2.trans hr.2).trans e4.symm⟩
    · refine ⟨fun q => absurd q.2 (by decide), fun _ => ?_⟩
      have e1 := x_sm a3 (c := 91) (j := 2) (by decide +kernel)
      have e2 := x_sm a3 (c := 91) (j := 1) (by decide +kernel)
      have e3 := x_sm a3 (c := 114) (j := 3) (by decide +kernel)
      have e4 := x_sm a3 (c := 115) (j := 3) (by decide +kernel)
      exact ⟨(e1.trans hr.1).trans e3.symm, (e2.trans hr.2).trans e4.symm⟩
  · have hu : u = 1 := x_i32 (show u.toInt = (1 : Int32).toInt from hc)
    subst hu
    obtain ⟨n2, m2, a1, -, a3, a4⟩ := xr_C12_p h.1.1 v w (by omega) (by omega) (by omega) (by omega)
    have e := x_det r1 a1
    cases e
    obtain ⟨n3, m3, b1, -, b3, b4⟩ := xr_C11_p h.1.1 v w (by omega) (by omega) (by omega) (by omega)
    have e := x_det r1 b1
    cases e
    refine ⟨n, 0, _, r1, r2, x_im_sm a3 (by decide +kernel) h.2.1, fun s hs => ?_⟩
    have h4 : s = 0 ∨ s = 1 ∨ s = 2 ∨ s = 3 := by omega
    have hr := h.2.2 s hs
    rcases h4 with rfl | rfl | rfl | rfl
    · refine ⟨fun q => absurd q.2 (by decide), fun _ => ?_⟩
      have e1 := x_sm a3 (c := 85) (j := 2) (by decide +kernel)
      have e2 := x_sm a3 (c := 85) (j := 1) (by decide +kernel)
      have e3 := x_sm a3 (c := 114) (j := 0) (by decide +kernel)
      have e4 := x_sm a3 (c := 115) (j := 0) (by decide +kernel)
      exact ⟨(e1.trans hr.1).trans e3.symm, (e2.trans hr.2).trans e4.symm⟩
    · exact ⟨fun _ => ⟨a4, b4⟩, fun q => absurd ⟨⟨by decide, by decide, by omega, by omega, by omega, by omega⟩, rfl⟩ q⟩
    · refine ⟨fun q => absurd q.2 (by decide), fun _ => ?_⟩
      have e1 := x_sm a3 (c := 89) (j := 2) (by decide +kernel)
      have e2 := x_sm a3 (c := 89) (j := 1) (by decide +kernel)
      have e3 := x_sm a3 (c := 114) (j := 2) (by decide +kernel)
      have e4 := x_sm a3 (c := 115) (j := 2) (by decide +kernel)
      exact ⟨(e1.trans hr.1).trans e3.symm, (e2.trans hr.2).trans e4.symm⟩
    · refine ⟨fun q => absurd q.2 (by decide), fun _ => ?_⟩
      have e1 := x_sm a3 (c := 91) (j := 2) (by decide +kernel)
      have e2 := x_sm a3 (c := 91) (j := 1) (by decide +kernel)
      have e3 := x_sm a3 (c := 114) (j := 3) (by decide +kernel)
      have e4 := x_sm a3 (c := 115) (j := 3) (by decide +kernel)
      exact ⟨(e1.trans hr.1).trans e3.symm, (e2.trans hr.2).trans e4.symm⟩
  · have hu : u = 2 := x_i32 (show u.toInt = (2 : Int32).toInt from hc)
    subst hu
    obtain ⟨n2, m2, a1, -, a3, a4⟩ := xr_C22_p h.1.1 v w (by omega) (by omega) (by omega) (by omega)
    have e := x_det r1 a1
    cases e
    obtain ⟨n3, m3, b1, -, b3, b4⟩ := xr_C21_p h.1.1 v w (by omega) (by omega) (by omega) (by omega)
    have e := x_det r1 b1
    cases e
    refine ⟨n, 0, _, r1, r2, x_im_sm a3 (by decide +kernel) h.2.1, fun s hs => ?_⟩
    have h4 : s = 0 ∨ s = 1 ∨ s = 2 ∨ s = 3 := by omega
    have hr := h.2.2 s hs
    rcases h4 with rfl | rfl | rfl | rfl
    · refine ⟨fun q => absurd q.2 (by decide), fun _ => ?_⟩
      have e1 := x_sm a3 (c := 85) (j := 2) (by decide +kernel)
      have e2 := x_sm a3 (c := 85) (j := 1) (by decide +kernel)
      have e3 := x_sm a3 (c := 114) (j := 0) (by decide +kernel)
      have e4 := x_sm a3 (c := 115) (j := 0) (by decide +kernel)
      exact ⟨(e1.trans hr.1).trans e3.symm, (e2.trans hr.2).trans e4.symm⟩
    · refine ⟨fun q => absurd q.2 (by decide), fun _ => ?_⟩
      have e1 := x_sm a3 (c := 87) (j := 2) (by decide +kernel)
      have e2 := x_sm a3 (c := 87) (j := 1) (by decide +kernel)
      have e3 := x_sm a3 (c := 114) (j := 1) (by decide +kernel)
      have e4 := x_sm a3 (c := 115) (j := 1) (by decide +kernel)
      exact ⟨(e1.trans hr.1).trans e3.symm, (e2.trans hr.2).trans e4.symm⟩
    · exact ⟨fun _ => ⟨a4, b4⟩, fun q => absurd ⟨⟨by decide, by decide, by omega, by omega, by omega, by omega⟩, rfl⟩ q⟩
    · refine ⟨fun q => absurd q.2 (by decide), fun _ => ?_⟩
      have e1 := x_sm a3 (c := 91) (j := 2) (by decide +kernel)
      have e2 := x_sm a3 (c := 91) (j := 1) (by decide +kernel)
      have e3 := x_sm a3 (c := 114) (j := 3) (by decide +kernel)
      have e4 := x_sm a3 (c := 115) (j := 3) (by decide +kernel)
      exact ⟨(e1.trans hr.1).trans e3.symm, (e2.trans hr.2).trans e4.symm⟩
  · have hu : u = 3 := x_i32 (show u.toInt = (3 : Int32).toInt from hc)
    subst hu
    obtain ⟨n2, m2, a1, -, a3, a4⟩ := xr_C32_p h.1.1 v w (by omega) (by omega) (by omega) (by omega)
    have e := x_det r1 a1
    cases e
    obtain ⟨n3, m3, b1, -, b3, b4⟩ := xr_C31_p h.1.1 v w (by omega) (by omega) (by omega) (by omega)
    have e := x_det r1 b1
    cases e
    refine ⟨n, 0, _, r1, r2, x_im_sm a3 (by decide +kernel) h.2.1, fun s hs => ?_⟩
    have h4 : s = 0 ∨ s = 1 ∨ s = 2 ∨ s = 3 := by omega
    have hr := h.2.2 s hs
    rcases h4 with rfl | rfl | rfl | rfl
    · refine ⟨fun q => absurd q.2 (by decide), fun _ => ?_⟩
      have e1 := x_sm a3 (c := 85) (j := 2) (by decide +kernel)
      have e2 := x_sm a3 (c := 85) (j := 1) (by decide +kernel)
      have e3 := x_sm a3 (c := 114) (j := 0) (by decide +kernel)
      have e4 := x_sm a3 (c := 115) (j := 0) (by decide +kernel)
      exact ⟨(e1.trans hr.1).trans e3.symm, (e2.trans hr.2).trans e4.symm⟩
    · refine ⟨fun q => absurd q.2 (by decide), fun _ => ?_⟩
      have e1 := x_sm a3 (c := 87) (j := 2) (by decide +kernel)
      have e2 := x_sm a3 (c := 87) (j := 1) (by decide +kernel)
      have e3 := x_sm a3 (c := 114) (j := 1) (by decide +kernel)
      have e4 := x_sm a3 (c := 115) (j := 1) (by decide +kernel)
      exact ⟨(e1.trans hr.1).trans e3.symm, (e2.trans hr.2).trans e4.symm⟩
    · refine ⟨fun q => absurd q.2 (by decide), fun _ => ?_⟩
      have e1 := x_sm a3 (c := 89) (j := 2) (by decide +kernel)
      have e2 := x_sm a3 (c := 89) (j := 1) (by decide +kernel)
      have e3 := x_sm a3 (c := 114) (j := 2) (by decide +kernel)
      have e4 := x_sm a3 (c := 115) (j := 2) (by decide +kernel)
      exact ⟨(e1.trans hr.1).trans e3.symm, (e2.trans hr.2).trans e4.symm⟩
    · exact ⟨fun _ => ⟨a4, b4⟩, fun q => absurd ⟨⟨by decide, by decide, by omega, by omega, by omega, by omega⟩, rfl⟩ q⟩
theorem x_rowM {m : q_M} (hJ : l_J m) (u v w : Int32) (hr : x_Rr u v w m) : ∃ (n : Nat) (r : Int32) (m1 : q_M), q_run q_D n q_m366 0 (lv_args 0 [.ref 93, .int u, .int v, .int w]) [] m = some (some (.int r), m1) ∧ x_J m1 := by
  have u1 := Int32.le_toInt u
  have u2 := Int32.toInt_lt u
  have v1 := Int32.le_toInt v
  have v2 := Int32.toInt_lt v
  have w1 := Int32.le_toInt w
  have w2 := Int32.toInt_lt w
  have hM : (q_gM q_D)[366]? = some q_m366 := rfl
  by_cases c0 : u.toInt < 0
  · obtain ⟨n, m1, h1, h2, h3⟩ := l_exb ky_M0_a (by decide +kernel) (fun o h => by rw [List.mem_singleton.mp h]) hM (ys := [.ref 93, .int u, .int v, .int w]) (zs := [u.toInt, v.toInt, w.toInt]) ⟨rfl, ⟨u, rfl, rfl⟩, by omega, by omega, ⟨v, rfl, rfl⟩, by omega, by omega, ⟨w, rfl, rfl⟩, by omega, by omega, rfl⟩ hJ
    exact ⟨n, _, m1, h1, h2, x_R_nil h3 ⟨hr.1, fun s hs => (hr.2 s hs).2 (fun q => by have := q.1; unfold x_val at this; omega)⟩⟩
  by_cases c1 : 3 < u.toInt
  · obtain ⟨n, m1, h1, h2, h3⟩ := l_exb ky_M1_a (by decide +kernel) (fun o h => by rw [List.mem_singleton.mp h]) hM (ys := [.ref 93, .int u, .int v, .int w]) (zs := [u.toInt, v.toInt, w.toInt]) ⟨rfl, ⟨u, rfl, rfl⟩, by omega, by omega, ⟨v, rfl, rfl⟩, by omega, by omega, ⟨w, rfl, rfl⟩, by omega, by omega, rfl⟩ hJ
    exact ⟨n, _, m1, h1, h2, x_R_nil h3 ⟨hr.1, fun s hs => (hr.2 s hs).2 (fun q => by have := q.1; unfold x_val at this; omega)⟩⟩
  by_cases c2 : v.toInt < 0
  · obtain ⟨n, m1, h1, h2, h3⟩ := l_exb ky_M2_a (by decide +kernel) (fun o h => by rw [List.mem_singleton.mp h]) hM (ys := [.ref 93, .int u, .int v, .int w]) (zs := [u.toInt, v.toInt, w.toInt]) ⟨rfl, ⟨u, rfl, rfl⟩, by omega, by omega, ⟨v, rfl, rfl⟩, by omega, by omega, ⟨w, rfl, rfl⟩, by omega, by omega, rfl⟩ hJ
    exact ⟨n, _, m1, h1, h2, x_R_nil h3 ⟨hr.1, fun s hs => (hr.2 s hs).2 (fun q => by have := q.1; unfold x_val at this; omega)⟩⟩
  by_cases c3 : 3 < v.toInt
  · obtain ⟨n, m1, h1, h2, h3⟩ := l_exb ky_M3_a (by decide +kernel) (fun o h => by rw [List.mem_singleton.mp h]) hM (ys := [.ref 93, .int u, .int v, .int w]) (zs := [u.toInt, v.toInt, w.toInt]) ⟨rfl, ⟨u, rfl, rfl⟩, by omega, by omega, ⟨v, rfl, rfl⟩, by omega, by omega, ⟨w, rfl, rfl⟩, by omega, by omega, rfl⟩ hJ
    exact ⟨n, _, m1, h1, h2, x_R_nil h3 ⟨hr.1, fun s hs => (hr.2 s hs).2 (fun q => by have := q.1; unfold x_val at this; omega)⟩⟩
  by_cases c4 : 60 < w.toInt
  · obtain ⟨n, m1, h1, h2, h3⟩ := l_exb ky_M4_a (by decide +kernel) (fun o h => by rw [List.mem_singleton.mp h]) hM (ys := [.ref 93, .int u, .int v, .int w]) (zs := [u.toInt, v.toInt, w.toInt]) ⟨rfl, ⟨u, rfl, rfl⟩, by omega, by omega, ⟨v, rfl, rfl⟩, by omega, by omega, ⟨w, rfl, rfl⟩, by omega, by omega, rfl⟩ hJ
    exact ⟨n, _, m1, h1, h2, x_R_nil h3 ⟨hr.1, fun s hs => (hr.2 s hs).2 (fun q => by have := q.1; unfold x_val at this; omega)⟩⟩
  by_cases c5 : w.toInt < 0
  · obtain ⟨n, m1, h1, h2, h3⟩ := l_exb ky_M5_a (by decide +kernel) (fun o h => by rw [List.mem_singleton.mp h]) hM (ys := [.ref 93, .int u, .int v, .int w]) (zs := [u.toInt, v.toInt, w.toInt]) ⟨rfl, ⟨u, rfl, rfl⟩, by omega, by omega, ⟨v, rfl, rfl⟩, by omega, by omega, ⟨w, rfl, rfl⟩, by omega, by omega, rfl⟩ hJ
    exact ⟨n, _, m1, h1, h2, x_R_nil h3 ⟨hr.1, fun s hs => (hr.2 s hs).2 (fun q => by have := q.1; unfold x_val at this; omega)⟩⟩
  obtain ⟨n, r, m1, r1, r2, -, -⟩ := l_run1 (ka_459 0) (by decide +kernel) hM (ys := [.ref 93, .int u, .int v, .int w]) (zs := [u.toInt, v.toInt, w.toInt]) ⟨rfl, ⟨u, rfl, rfl⟩, by omega, by omega, ⟨v, rfl, rfl⟩, by omega, by omega, ⟨w, rfl, rfl⟩, by omega, by omega, rfl⟩ hJ
  have hc : u.toInt = 0 ∨ u.toInt = 1 ∨ u.toInt = 2 ∨ u.toInt = 3 := by omega
  rcases hc with hc | hc | hc | hc
  · have hu : u = 0 := x_i32 (show u.toInt = (0 : Int32).toInt from hc)
    subst hu
    obtain ⟨n2, m2, a1, -, a3, a4⟩ := xr_M02_p hJ.1 v w (by omega) (by omega) (by omega) (by omega)
    have e := x_det r1 a1
    cases e
    obtain ⟨n3, m3, b1, -, b3, b4⟩ := xr_M01_p hJ.1 v w (by omega) (by omega) (by omega) (by omega)
    have e := x_det r1 b1
    cases e
    refine ⟨n, 0, _, r1, r2, x_im_sm a3 (by decide +kernel) hr.1, fun s hs => ?_⟩
    have h4 : s = 0 ∨ s = 1 ∨ s = 2 ∨ s = 3 := by omega
    have hr := hr.2 s hs
    rcases h4 with rfl | rfl | rfl | rfl
    · have q := hr.1 ⟨⟨by decide, by decide, by omega, by omega, by omega, by omega⟩, rfl⟩
      have e1 := x_sm a3 (c := 85) (j := 2) (by decide +kernel)
      have e2 := x_sm a3 (c := 85) (j := 1) (by decide +kernel)
      exact ⟨(e1.trans q.1).trans a4.symm, (e2.trans q.2).trans b4.symm⟩
    · have q := hr.2 (fun q => absurd q.2 (by decide))
      have e1 := x_sm a3 (c := 87) (j := 2) (by decide +kernel)
      have e2 := x_sm a3 (c := 87) (j := 1) (by decide +kernel)
      have e3 := x_sm a3 (c := 114) (j := 1) (by decide +kernel)
      have e4 := x_sm a3 (c := 115) (j := 1) (by decide +kernel)
      exact ⟨(e1.trans q.1).trans e3.symm, (e2.trans q.2).trans e4.symm⟩
    · have q := hr.2 (fun q => absurd q.2 (by decide))
      have e1 := x_sm a3 (c := 89) (j := 2) (by decide +kernel)
      have e2 := x_sm a3 (c := 89) (j := 1) (by decide +kernel)
      have e3 := x_sm a3 (c := 114) (j := 2) (by decide +kernel)
      have e4 := x_sm a3 (c := 115) (j := 2) (by decide +kernel)
      exact ⟨(e1.trans q.1).trans e3.symm, (e2.trans q.2).trans e4.symm⟩
    · have q := hr.2 (fun q => absurd q.2 (by decide))
      have e1 := x_sm a3 (c := 91) (j := 2) (by decide +kernel)
      have e2 := x_sm a3 (c := 91) (j := 1) (by decide +kernel)
      have e3 := x_sm a3 (c := 114) (j := 3) (by decide +kernel)
      have e4 := x_sm a3 (c := 115) (j := 3) (by decide +kernel)
      exact ⟨(e1.trans q.1).trans e3.symm, (e2.trans q.2).trans e4.symm⟩
  · have hu : u = 1 := x_i32 (show u.toInt = (1 : Int32).toInt from hc)
    subst hu
    obtain ⟨n2, m2, a1, -, a3, a4⟩ := xr_M12_p hJ.1 v w (by omega) (by omega) (by omega) (by omega)
    have e := x_det r1 a1
    cases e
    obtain ⟨n3, m3, b1, -, b3, b4⟩ := xr_M11_p hJ.1 v w (by omega) (by omega) (by omega) (by omega)
    have e := x_det r1 b1
    cases e
    refine ⟨n, 0, _, r1, r2, x_im_sm a3 (by decide +kernel) hr.1, fun s hs => ?_⟩
    have h4 : s = 0 ∨ s = 1 ∨ s = 2 ∨ s = 3 := by omega
    have hr := hr.2 s hs
    rcases h4 with rfl | rfl | rfl | rfl
    · have q := hr.2 (fun q => absurd q.2 (by decide))
      have e1 := x_sm a3 (c := 85) (j := 2) (by decide +kernel)
      have e2 := x_sm a3 (c := 85) (j := 1) (by decide +kernel)
      have e3 := x_sm a3 (c := 114) (j := 0) (by decide +kernel)
      have e4 := x_sm a3 (c := 115) (j := 0) (by decide +kernel)
      exact ⟨(e1.trans q.1).trans e3.symm, (e2.trans q.2).trans e4.symm⟩
    · have q := hr.1 ⟨⟨by decide, by decide, by omega, by omega, by omega, by omega⟩, rfl⟩
      have e1 := x_sm a3 (c := 87) (j := 2) (by decide +kernel)
      have e2 := x_sm a3 (c := 87) (j := 1) (by decide +kernel)
      exact ⟨(e1.trans q.1).trans a4.symm, (e2.trans q.2).trans b4.symm⟩
    · have q := hr.2 (fun q => absurd q.2 (by decide))
      have e1 := x_sm a3 (c := 89) (j := 2) (by decide +kernel)
      have e2 := x_sm a3 (c := 89) (j := 1) (by decide +kernel)
      have e3 := x_sm a3 (c := 114) (j := 2) (by decide +kernel)
      have e4 := x_sm a3 (c := 115) (j := 2) (by decide +kernel)
      exact ⟨(e1.trans q.1).trans e3.symm, (e2.trans q.2).trans e4.symm⟩
    · have q := hr.2 (fun q => absurd q.2 (by decide))
      have e1 := x_sm a3 (c := 91) (j := 2) (by decide +kernel)
      have e2 := x_sm a3 (c := 91) (j := 1) (by decide +kernel)
      have e3 := x_sm a3 (c := 114) (j := 3) (by decide +kernel)
      have e4 := x_sm a3 (c := 115) (j := 3) (by decide +kernel)
      exact ⟨(e1.trans q.1).trans e3.symm, (e2.trans q.2).trans e4.symm⟩
  · have hu : u = 2 := x_i32 (show u.toInt = (2 : Int32).toInt from hc)
    subst hu
    obtain ⟨n2, m2, a1, -, a3, a4⟩ := xr_M22_p hJ.1 v w (by omega) (by omega) (by omega) (by omega)
    have e := x_det r1 a1
    cases e
    obtain ⟨n3, m3, b1, -, b3, b4⟩ := xr_M21_p hJ.1 v w (by omega) (by omega) (by omega) (by omega)
    have e := x_det r1 b1
    cases e
    refine ⟨n, 0, _, r1, r2, x_im_sm a3 (by decide +kernel) hr.1, fun s hs => ?_⟩
    have h4 : s = 0 ∨ s = 1 ∨ s = 2 ∨ s = 3 := by omega
    have hr := hr.2 s hs
    rcases h4 with rfl | rfl | rfl | rfl
    · have q := hr.2 (fun q => absurd q.2 (by decide))
      have e1 := x_sm a3 (c := 85) (j := 2) (by decide +kernel)
      have e2 := x_sm a3 (c := 85) (j := 1) (by decide +kernel)
      have e3 := x_sm a3 (c := 114) (j := 0) (by decide +kernel)
      have e4 := x_sm a3 (c := 115) (j := 0) (by decide +kernel)
      exact ⟨(e1.trans q.1).trans e3.symm, (e2.trans q.2).trans e4.symm⟩
    · have q := hr.2 (fun q => absurd q.2 (by decide))
      have e1 := x_sm a3 (c := 87) (j := 2) (by decide +kernel)
      have e2 := x_sm a3 (c := 87) (j := 1) (by decide +kernel)
      have e3 := x_sm a3 (c := 114) (j := 1) (by decide +kernel)
      have e4 := x_sm a3 (c := 115) (j := 1) (by decide +kernel)
      exact ⟨(e1.trans q.1).trans e3.symm, (e2.trans q.2).trans e4.symm⟩
    · have q := hr.1 ⟨⟨by decide, by decide, by omega, by omega, by omega, by omega⟩, rfl⟩
      have e1 := x_sm a3 (c := 89) (j := 2) (by decide +kernel)
      have e2 := x_sm a3 (c := 89) (j := 1) (by decide +kernel)
      exact ⟨(e1.trans q.1).trans a4.symm, (e2.trans q.2).trans b4.symm⟩
    · have q := hr.2 (fun q => absurd q.2 (by decide))
      have e1 := x_sm a3 (c := 91) (j := 2) (by decide +kernel)
      have e2 := x_sm a3 (c := 91) (j := 1) (by decide +kernel)
      have e3 := x_sm a3 (c := 114) (j := 3) (by decide +kernel)
      have e4 := x_sm a3 (c := 115) (j := 3) (by decide +kernel)
      exact ⟨(e1.trans q.1).trans e3.symm, (e2.trans q.2).trans e4.symm⟩
  · have hu : u = 3 := x_i32 (show u.toInt = (3 : Int32).toInt from hc)
    subst hu
    obtain ⟨n2, m2, a1, -, a3, a4⟩ := xr_M32_p hJ.1 v w (by omega) (by omega) (by omega) (by omega)
    have e := x_det r1 a1
    cases e
    obtain ⟨n3, m3, b1, -, b3, b4⟩ := xr_M31_p hJ.1 v w (by omega) (by omega) (by omega) (by omega)
    have e := x_det r1 b1
    cases e
    refine ⟨n, 0, _, r1, r2, x_im_sm a3 (by decide +kernel) hr.1, fun s hs => ?_⟩
    have h4 : s = 0 ∨ s = 1 ∨ s = 2 ∨ s = 3 := by omega
    have hr := hr.2 s hs
    rcases h4 with rfl | rfl | rfl | rfl
    · have q := hr.2 (fun q => absurd q.2 (by decide))
      have e1 := x_sm a3 (c := 85) (j := 2) (by decide +kernel)
      have e2 := x_sm a3 (c := 85) (j := 1) (by decide +kernel)
      have e3 := x_sm a3 (c := 114) (j := 0) (by decide +kernel)
      have e4 := x_sm a3 (c := 115) (j := 0) (by decide +kernel)
      exact ⟨(e1.trans q.1).trans e3.symm, (e2.trans q.2).trans e4.symm⟩
    · have q := hr.2 (fun q => absurd q.2 (by decide))
      have e1 := x_sm a3 (c := 87) (j := 2) (by decide +kernel)
      have e2 := x_sm a3 (c := 87) (j := 1) (by decide +kernel)
      have e3 := x_sm a3 (c := 114) (j := 1) (by decide +kernel)
      have e4 := x_sm a3 (c := 115) (j := 1) (by decide +kernel)
      exact ⟨(e1.trans q.1).trans e3.symm, (e2.trans q.2).trans e4.symm⟩
    · have q := hr.2 (fun q => absurd q.2 (by decide))
      have e1 := x_sm a3 (c := 89) (j := 2) (by decide +kernel)
      have e2 := x_sm a3 (c := 89) (j := 1) (by decide +kernel)
      have e3 := x_sm a3 (c := 114) (j := 2) (by decide +kernel)
      have e4 := x_sm a3 (c := 115) (j := 2) (by decide +kernel)
      exact ⟨(e1.trans q.1).trans e3.symm, (e2.trans q.2).trans e4.symm⟩
    · have q := hr.1 ⟨⟨by decide, by decide, by omega, by omega, by omega, by omega⟩, rfl⟩
      have e1 := x_sm a3 (c := 91) (j := 2) (by decide +kernel)
      have e2 := x_sm a3 (c := 91) (j := 1) (by decide +kernel)
      exact ⟨(e1.trans q.1).trans a4.symm, (e2.trans q.2).trans b4.symm⟩
def x_sg (m0 m : q_M) : Prop := (∀ k, k < 3 → q_i m 96 k = q_i m0 96 k) ∧ ∀ s, s < 4 → q_i m 114 s = q_i m0 114 s ∧ q_i m 115 s = q_i m0 115 s
def x_I (m0 : q_M) (u v w : Int32) (p : Nat) (m : q_M) : Prop := match p with
  | 0 => x_J m ∧ x_sg m0 m
  | 1 => x_J m
  | 2 => l_J m ∧ x_Ri u m
  | 3 => l_J m ∧ x_Rr u v w m
  | _ => False
theorem x_of0 {m0 : q_M} {u v w : Int32} {W : b_W} (hw : x_off W = true) (m m1 : q_M) (h : x_I m0 u v w 0 m) (hJ : l_J m1) (hs : q_same W m m1) : x_I m0 u v w 0 m1 := by
  refine ⟨⟨hJ, x_R_off hw hs h.1.2⟩, fun k hk => ?_, fun s hk => ?_⟩
  · rw [x_off_at hw hs (x_p (c := 96) (lo := 0) (hi := 2) (j := k) (by decide) (by omega) (by omega))]
    exact h.2.1 k hk
  · rw [x_off_at hw hs (x_p (c := 114) (lo := 0) (hi := 3) (j := s) (by decide) (by omega) (by omega)), x_off_at hw hs (x_p (c := 115) (lo := 0) (hi := 3) (j := s) (by decide) (by omega) (by omega))]
    exact h.2.2 s hk
theorem x_of1 {m0 : q_M} {u v w : Int32} {W : b_W} (hw : x_off W = true) (m m1 : q_M) (h : x_I m0 u v w 0 m) (hJ : l_J m1) (hs : q_same W m m1) : x_I m0 u v w 1 m1 := ⟨hJ, x_R_off hw hs h.1.2⟩
theorem x_okiC {a : Nat} {xs : Nat → Int32} {m0 : q_M} {R : Int → Int32}  : l_ok (x_I m0 (xs (a + 1)) (xs (a + 2)) (xs (a + 3))) a xs R (207, [(0, 0), (3, 1)], (4, 0), (0, 2)) := by
  intro m ys rest hp hs hr
  obtain ⟨M1, k1, k2⟩ := l_cal_ok (by decide +kernel : l_cal 207 [(0, 0), (3, 1)] = true) (show bi_M kc_I m from hp.1.1.1) hs hr
  have hM : (q_gM q_D)[207]? = some q_m207 := rfl
  have e : M1 = q_m207 := Option.some.inj (k1.symm.trans hM)
  subst e
  obtain ⟨y0, ys0, rfl, h0, hs⟩ := g_ca hs
  obtain ⟨y1, ys1, rfl, h1, hs⟩ := g_ca hs
  have e4 := g_na hs
  subst e4
  have h0 : y0 = .ref 0 := h0
  have h1 : y1 = .int (xs (a + 1)) := h1
  subst h0 h1
  obtain ⟨n, r, m1, r1, r2, r3⟩ := x_imgC hp.1 (xs (a + 1))
  exact ⟨_, n, _, m1, k2, r1, ⟨r2, r3⟩, _, rfl⟩
theorem x_okiM {a : Nat} {xs : Nat → Int32} {m0 : q_M} {R : Int → Int32}  : l_ok (x_I m0 (xs (a + 1)) (xs (a + 2)) (xs (a + 3))) a xs R (217, [(0, 93), (3, 1)], (4, 0), (2, 1)) := by
  intro m ys rest hp hs hr
  obtain ⟨M1, k1, k2⟩ := l_cal_ok (by decide +kernel : l_cal 217 [(0, 93), (3, 1)] = true) (show bi_M kc_I m from hp.1.1) hs hr
  have hM : (q_gM q_D)[217]? = some q_m217 := rfl
  have e : M1 = q_m217 := Option.some.inj (k1.symm.trans hM)
  subst e
  obtain ⟨y0, ys0, rfl, h0, hs⟩ := g_ca hs
  obtain ⟨y1, ys1, rfl, h1, hs⟩ := g_ca hs
  have e4 := g_na hs
  subst e4
  have h0 : y0 = .ref 93 := h0
  have h1 : y1 = .int (xs (a + 1)) := h1
  subst h0 h1
  obtain ⟨n, r, m1, r1, r2⟩ := x_imgM hp.1 (xs (a + 1)) hp.2
  exact ⟨_, n, _, m1, k2, r1, r2, _, rfl⟩
theorem x_okrC {a : Nat} {xs : Nat → Int32} {m0 : q_M} {R : Int → Int32}  : l_ok (x_I m0 (xs (a + 1)) (xs (a + 2)) (xs (a + 3))) a xs R (209, [(0, 0), (3, 1), (3, 2), (3, 3)], (4, 0), (0, 3)) := by
  intro m ys rest hp hs hr
  obtain ⟨M1, k1, k2⟩ := l_cal_ok (by decide +kernel : l_cal 209 [(0, 0), (3, 1), (3, 2), (3, 3)] = true) (show bi_M kc_I m from hp.1.1.1) hs hr
  have hM : (q_gM q_D)[209]? = some q_m209 := rfl
  have e : M1 = q_m209 := Option.some.inj (k1.symm.trans hM)
  subst e
  obtain ⟨y0, ys0, rfl, h0, hs⟩ := g_ca hs
  obtain ⟨y1, ys1, rfl, h1, hs⟩ := g_ca hs
  obtain ⟨y2, ys2, rfl, h2, hs⟩ := g_ca hs
  obtain ⟨y3, ys3, rfl, h3, hs⟩ := g_ca hs
  have e4 := g_na hs
  subst e4
  have h0 : y0 = .ref 0 := h0
  have h1 : y1 = .int (xs (a + 1)) := h1
  have h2 : y2 = .int (xs (a + 2)) := h2
  have h3 : y3 = .int (xs (a + 3)) := h3
  subst h0 h1 h2 h3
  obtain ⟨n, r, m1, r1, r2, r3⟩ := x_rowC hp.1 (xs (a + 1)) (xs (a + 2)) (xs (a + 3))
  exact ⟨_, n, _, m1, k2, r1, ⟨r2, r3⟩, _, rfl⟩
theorem x_okrM {a : Nat} {xs : Nat → Int32} {m0 : q_M} {R : Int → Int32}  : l_ok (x_I m0 (xs (a + 1)) (xs (a + 2)) (xs (a + 3))) a xs R (366, [(0, 93), (3, 1), (3, 2), (3, 3)], (4, 0), (3, 1)) := by
  intro m ys rest hp hs hr
  obtain ⟨M1, k1, k2⟩ := l_cal_ok (by decide +kernel : l_cal 366 [(0, 93), (3, 1), (3, 2), (3, 3)] = true) (show bi_M kc_I m from hp.1.1) hs hr
  have hM : (q_gM q_D)[366]? = some q_m366 := rfl
  have e : M1 = q_m366 := Option.some.inj (k1.symm.trans hM)
  subst e
  obtain ⟨y0, ys0, rfl, h0, hs⟩ := g_ca hs
  obtain ⟨y1, ys1, rfl, h1, hs⟩ := g_ca hs
  obtain ⟨y2, ys2, rfl, h2, hs⟩ := g_ca hs
  obtain ⟨y3, ys3, rfl, h3, hs⟩ := g_ca hs
  have e4 := g_na hs
  subst e4
  have h0 : y0 = .ref 93 := h0
  have h1 : y1 = .int (xs (a + 1)) := h1
  have h2 : y2 = .int (xs (a + 2)) := h2
  have h3 : y3 = .int (xs (a + 3)) := h3
  subst h0 h1 h2 h3
  obtain ⟨n, r, m1, r1, r2⟩ := x_rowM hp.1 (xs (a + 1)) (xs (a + 2)) (xs (a + 3)) hp.2
  exact ⟨_, n, _, m1, k2, r1, r2, _, rfl⟩

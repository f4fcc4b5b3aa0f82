/-! THE COMPARED CALL: contracts that say its answer exactly -/
theorem l_ex {c : b_Con} {x : Int} (hc : bc_ok q_D kc_I (r_F kK 0) c) (ht : l_tok c = true) (ho : ∀ o ∈ c.2.2.1, o.1 = some (false, x, x)) {M1 : q_MI} (hM : (q_gM q_D)[c.1]? = some M1) {ys : List Value} {zs : List Int} {m : q_M} (ha : bc_args c.2.1 ys zs) (hJ : l_J m) :
    ∃ (n : Nat) (m1 : q_M), q_run q_D n M1 0 (lv_args 0 ys) [] m = some (some (.int (Int32.ofInt x)), m1) ∧ l_J m1 ∧ q_same c.2.2.2.1 m m1 := by
  obtain ⟨n, r, m1, h1, h2, h3, o, o1, o2⟩ := l_run1 hc ht hM ha hJ
  have e := ho o o1
  unfold bc_out at o2
  rw [e] at o2
  cases r with
  | none => exact o2.elim
  | some y =>
    obtain ⟨z, ⟨w, rfl, w2⟩, z2, z3, -⟩ := o2
    have : Int32.ofInt x = w := by
      rw [show x = w.toInt by omega, Int32.ofInt_toInt]
    rw [this]
    exact ⟨n, m1, h1, h2, h3⟩
def l_iv (u : Int32) : Int32 := if u.toInt < 0 ∨ 2 < u.toInt then Int32.ofInt (-2) else Int32.ofInt 0
def ki_C0 : b_Con := (207, [.inr (.inl 0), .inl (false, (-2147483648), (-1))], [(some (false, (-2), (-2)), [])], [(0, 5, 5), (49, 0, 0), (49, 1, 1), (49, 2, 2), (49, 3, 3), (49, 4, 4), (49, 5, 5), (49, 6, 6), (50, 0, 19), (51, 0, 19), (52, 0, 19), (53, 0, 19), (54, 0, 19), (55, 0, 19), (56, 0, 5), (57, 0, 5), (58, 0, 5), (59, 0, 5), (60, 0, 119), (61, 0, 0), (61, 1, 1), (61, 2, 2), (61, 3, 3), (61, 4, 4), (61, 5, 5), (61, 6, 6), (62, 0, 19), (63, 0, 19), (64, 0, 19), (65, 0, 19), (66, 0, 19), (67, 0, 19), (68, 0, 5), (69, 0, 5), (70, 0, 5), (71, 0, 5), (72, 0, 119), (73, 0, 0), (73, 1, 1), (73, 2, 2), (73, 3, 3), (73, 4, 4), (73, 5, 5), (73, 6, 6), (74, 0, 19), (75, 0, 19), (76, 0, 19), (77, 0, 19), (78, 0, 19), (79, 0, 19), (80, 0, 5), (81, 0, 5), (82, 0, 5), (83, 0, 5), (84, 0, 119)], [])
set_option maxRecDepth 100000 in
theorem ki_C0_k : b_chk r_hk q_D kc_I r_fp 3000 ki_C0 [] [kc_221, kc_222, kc_223] []
   [] = true := by decide +kernel
theorem ki_C0_a : bc_ok q_D kc_I (r_F kK 0) ki_C0 := b_chk_ok (r_hk_ok kc_Iok kK1) kc_srt (r_bgF kc_Iok) ki_C0_k (ka_cons (ka_221 0) (ka_cons (ka_222 0) (ka_cons (ka_223 0) ka_nil)))
def ki_C1 : b_Con := (207, [.inr (.inl 0), .inl (false, 3, 2147483647)], [(some (false, (-2), (-2)), [])], [(0, 5, 5), (49, 0, 0), (49, 1, 1), (49, 2, 2), (49, 3, 3), (49, 4, 4), (49, 5, 5), (49, 6, 6), (50, 0, 19), (51, 0, 19), (52, 0, 19), (53, 0, 19), (54, 0, 19), (55, 0, 19), (56, 0, 5), (57, 0, 5), (58, 0, 5), (59, 0, 5), (60, 0, 119), (61, 0, 0), (61, 1, 1), (61, 2, 2), (61, 3, 3), (61, 4, 4), (61, 5, 5), (61, 6, 6), (62, 0, 19), (63, 0, 19), (64, 0, 19), (65, 0, 19), (66, 0, 19), (67, 0, 19), (68, 0, 5), (69, 0, 5), (70, 0, 5), (71, 0, 5), (72, 0, 119), (73, 0, 0), (73, 1, 1), (73, 2, 2), (73, 3, 3), (73, 4, 4), (73, 5, 5), (73, 6, 6), (74, 0, 19), (75, 0, 19), (76, 0, 19), (77, 0, 19), (78, 0, 19), (79, 0, 19), (80, 0, 5), (81, 0, 5), (82, 0, 5), (83, 0, 5), (84, 0, 119)], [])
set_option maxRecDepth 100000 in
theorem ki_C1_k : b_chk r_hk q_D kc_I r_fp 3000 ki_C1 [] [kc_221, kc_222, kc_223] []
   [] = true := by decide +kernel
theorem ki_C1_a : bc_ok q_D kc_I (r_F kK 0) ki_C1 := b_chk_ok (r_hk_ok kc_Iok kK1) kc_srt (r_bgF kc_Iok) ki_C1_k (ka_cons (ka_221 0) (ka_cons (ka_222 0) (ka_cons (ka_223 0) ka_nil)))
def ki_C2 : b_Con := (207, [.inr (.inl 0), .inl (false, 0, 2)], [(some (false, 0, 0), [])], [(0, 5, 5), (49, 0, 0), (49, 1, 1), (49, 2, 2), (49, 3, 3), (49, 4, 4), (49, 5, 5), (49, 6, 6), (50, 0, 19), (51, 0, 19), (52, 0, 19), (53, 0, 19), (54, 0, 19), (55, 0, 19), (56, 0, 5), (57, 0, 5), (58, 0, 5), (59, 0, 5), (60, 0, 119), (61, 0, 0), (61, 1, 1), (61, 2, 2), (61, 3, 3), (61, 4, 4), (61, 5, 5), (61, 6, 6), (62, 0, 19), (63, 0, 19), (64, 0, 19), (65, 0, 19), (66, 0, 19), (67, 0, 19), (68, 0, 5), (69, 0, 5), (70, 0, 5), (71, 0, 5), (72, 0, 119), (73, 0, 0), (73, 1, 1), (73, 2, 2), (73, 3, 3), (73, 4, 4), (73, 5, 5), (73, 6, 6), (74, 0, 19), (75, 0, 19), (76, 0, 19), (77, 0, 19), (78, 0, 19), (79, 0, 19), (80, 0, 5), (81, 0, 5), (82, 0, 5), (83, 0, 5), (84, 0, 119)], [])
set_option maxRecDepth 100000 in
theorem ki_C2_k : b_chk r_hk q_D kc_I r_fp 3000 ki_C2 [] [kc_221, kc_222, kc_223] []
   [] = true := by decide +kernel
theorem ki_C2_a : bc_ok q_D kc_I (r_F kK 0) ki_C2 := b_chk_ok (r_hk_ok kc_Iok kK1) kc_srt (r_bgF kc_Iok) ki_C2_k (ka_cons (ka_221 0) (ka_cons (ka_222 0) (ka_cons (ka_223 0) ka_nil)))
theorem l_imgC {m : q_M} (hJ : l_J m) (u : Int32) : ∃ (n : Nat) (m1 : q_M), q_run q_D n q_m207 0 (lv_args 0 [.ref 0, .int u]) [] m = some (some (.int (l_iv u)), m1) ∧ l_J m1 := by
  have u1 := Int32.le_toInt u
  have u2 := Int32.toInt_lt u
  have hM : (q_gM q_D)[207]? = some q_m207 := rfl
  unfold l_iv
  by_cases c0 : u.toInt < 0
  · obtain ⟨n, m1, h1, h2, -⟩ := l_ex ki_C0_a (by decide +kernel) (fun o h => by rw [List.mem_singleton.mp h]) hM (ys := [.ref 0, .int u]) (zs := [u.toInt]) ⟨rfl, ⟨u, rfl, rfl⟩, by omega, by omega, rfl⟩ hJ
    rw [if_pos (by omega)]
    exact ⟨n, m1, h1, h2⟩
  by_cases c1 : 2 < u.toInt
  · obtain ⟨n, m1, h1, h2, -⟩ := l_ex ki_C1_a (by decide +kernel) (fun o h => by rw [List.mem_singleton.mp h]) hM (ys := [.ref 0, .int u]) (zs := [u.toInt]) ⟨rfl, ⟨u, rfl, rfl⟩, by omega, by omega, rfl⟩ hJ
    rw [if_pos (by omega)]
    exact ⟨n, m1, h1, h2⟩
  · obtain ⟨n, m1, h1, h2, -⟩ := l_ex ki_C2_a (by decide +kernel) (fun o h => by rw [List.mem_singleton.mp h]) hM (ys := [.ref 0, .int u]) (zs := [u.toInt]) ⟨rfl, ⟨u, rfl, rfl⟩, by omega, by omega, rfl⟩ hJ
    rw [if_neg (by omega)]
    exact ⟨n, m1, h1, h2⟩
theorem l_imgokC {a : Nat} {xs : Nat → Int32} {p q : Nat} : l_ok (fun _ => l_J) a xs (fun _ => l_iv (xs (a + 1))) (207, [(0, 0), (3, 1)], (7, 0), (p, q)) := by
  intro m ys rest hp hs hr
  obtain ⟨M1, k1, k2⟩ := l_cal_ok (by decide +kernel : l_cal 207 [(0, 0), (3, 1)] = true) hp.1 hs hr
  have hM : (q_gM q_D)[207]? = some q_m207 := rfl
  have e : M1 = q_m207 := Option.some.inj (k1.symm.trans hM)
  subst e
  obtain ⟨y0, ys0, rfl, h0, hs⟩ := g_ca hs
  obtain ⟨y1, ys1, rfl, h1, hs⟩ := g_ca hs
  have e4 := g_na hs
  subst e4
  have h0 : y0 = .ref 0 := h0
  have h1 : y1 = .int (xs (a + 1)) := h1
  subst h0 h1
  obtain ⟨n, m1, r1, r2⟩ := l_imgC hp (xs (a + 1))
  exact ⟨_, n, _, m1, k2, r1, r2, rfl⟩
def ki_M0 : b_Con := (217, [.inr (.inl 93), .inl (false, (-2147483648), (-1))], [(some (false, (-2), (-2)), [(0, []), (2, []), (3, []), (4, [])])], [(95, 0, 276), (95, 277, 553), (95, 554, 830), (96, 0, 2)], [(0, []), (2, []), (3, []), (4, [])])
set_option maxRecDepth 100000 in
theorem ki_M0_k : b_chk r_hk q_D kc_I r_fp 3000 ki_M0 [218] [] []
   [] = true := by decide +kernel
theorem ki_M0_a : bc_ok q_D kc_I (r_F kK 0) ki_M0 := b_chk_ok (r_hk_ok kc_Iok kK1) kc_srt (r_bgF kc_Iok) ki_M0_k ka_nil
def ki_M1 : b_Con := (217, [.inr (.inl 93), .inl (false, 3, 2147483647)], [(some (false, (-2), (-2)), [(0, []), (2, []), (3, []), (4, [])])], [(95, 0, 276), (95, 277, 553), (95, 554, 830), (96, 0, 2)], [(0, []), (2, []), (3, []), (4, [])])
set_option maxRecDepth 100000 in
theorem ki_M1_k : b_chk r_hk q_D kc_I r_fp 3000 ki_M1 [218] [] []
   [] = true := by decide +kernel
theorem ki_M1_a : bc_ok q_D kc_I (r_F kK 0) ki_M1 := b_chk_ok (r_hk_ok kc_Iok kK1) kc_srt (r_bgF kc_Iok) ki_M1_k ka_nil
def ki_M2 : b_Con := (217, [.inr (.inl 93), .inl (false, 0, 2)], [(some (false, 0, 0), [(0, []), (2, []), (3, []), (4, [])])], [(95, 0, 276), (95, 277, 553), (95, 554, 830), (96, 0, 2)], [(0, []), (2, []), (3, []), (4, [])])
set_option maxRecDepth 100000 in
theorem ki_M2_k : b_chk r_hk q_D kc_I r_fp 3000 ki_M2 [218] [] []
   [(17, [(1, 1), (1, 2)], [], [((1, [(0, 0, 319)], [], [], [(13, [([(0, 1)], 0)]), (0, []), (2, []), (3, [])]), [(0, .inr (.inl 93)), (1, .inl (false, ([], 2))), (2, .inl (false, ([(0, 1)], 0)))], ([(0, (-1))], 319)), ((1, [(0, 0, 319)], [], [], [(12, [([(0, 1)], 0)]), (0, []), (2, []), (4, [])]), [(0, .inr (.inl 93)), (1, .inl (false, ([], 1))), (2, .inl (false, ([(0, 1)], 0)))], ([(0, (-1))], 319)), ((1, [(0, 0, 319)], [], [], [(11, [([(0, 1)], 0)]), (0, []), (3, []), (4, [])]), [(0, .inr (.inl 93)), (1, .inl (false, ([], 0))), (2, .inl (false, ([(0, 1)], 0)))], ([(0, (-1))], 319))])] = true := by decide +kernel
theorem ki_M2_a : bc_ok q_D kc_I (r_F kK 0) ki_M2 := b_chk_ok (r_hk_ok kc_Iok kK1) kc_srt (r_bgF kc_Iok) ki_M2_k ka_nil
theorem l_imgM {m : q_M} (hJ : l_J m) (u : Int32) : ∃ (n : Nat) (m1 : q_M), q_run q_D n q_m217 0 (lv_args 0 [.ref 93, .int u]) [] m = some (some (.int (l_iv u)), m1) ∧ l_J m1 := by
  have u1 := Int32.le_toInt u
  have u2 := Int32.toInt_lt u
  have hM : (q_gM q_D)[217]? = some q_m217 := rfl
  unfold l_iv
  by_cases c0 : u.toInt < 0
  · obtain ⟨n, m1, h1, h2, -⟩ := l_ex ki_M0_a (by decide +kernel) (fun o h => by rw [List.mem_singleton.mp h]) hM (ys := [.ref 93, .int u]) (zs := [u.toInt]) ⟨rfl, ⟨u, rfl, rfl⟩, by omega, by omega, rfl⟩ hJ
    rw [if_pos (by omega)]
    exact ⟨n, m1, h1, h2⟩
  by_cases c1 : 2 < u.toInt
  · obtain ⟨n, m1, h1, h2, -⟩ := l_ex ki_M1_a (by decide +kernel) (fun o h => by rw [List.mem_singleton.mp h]) hM (ys := [.ref 93, .int u]) (zs := [u.toInt]) ⟨rfl, ⟨u, rfl, rfl⟩, by omega, by omega, rfl⟩ hJ
    rw [if_pos (by omega)]
    exact ⟨n, m1, h1, h2⟩
  · obtain ⟨n, m1, h1, h2, -⟩ := l_ex ki_M2_a (by decide +kernel) (fun o h => by rw [List.mem_singleton.mp h]) hM (ys := [.ref 93, .int u]) (zs := [u.toInt]) ⟨rfl, ⟨u, rfl, rfl⟩, by omega, by omega, rfl⟩ hJ
    rw [if_neg (by omega)]
    exact ⟨n, m1, h1, h2⟩
theorem l_imgokM {a : Nat} {xs : Nat → Int32} {p q : Nat} : l_ok (fun _ => l_J) a xs (fun _ => l_iv (xs (a + 1))) (217, [(0, 93), (3, 1)], (7, 0), (p, q)) := by
  intro m ys rest hp hs hr
  obtain ⟨M1, k1, k2⟩ := l_cal_ok (by decide +kernel : l_cal 217 [(0, 93), (3, 1)] = true) hp.1 hs hr
  have hM : (q_gM q_D)[217]? = some q_m217 := rfl
  have e : M1 = q_m217 := Option.some.inj (k1.symm.trans hM)
  subst e
  obtain ⟨y0, ys0, rfl, h0, hs⟩ := g_ca hs
  obtain ⟨y1, ys1, rfl, h1, hs⟩ := g_ca hs
  have e4 := g_na hs
  subst e4
  have h0 : y0 = .ref 93 := h0
  have h1 : y1 = .int (xs (a + 1)) := h1
  subst h0 h1
  obtain ⟨n, m1, r1, r2⟩ := l_imgM hp (xs (a + 1))
  exact ⟨_, n, _, m1, k2, r1, r2, rfl⟩

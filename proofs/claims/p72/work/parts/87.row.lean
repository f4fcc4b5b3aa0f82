/-! THE COMPARED CALL: contracts that say its answer exactly -/
theorem l_ex {c : b_Con} {x : Int} (hc : bc_ok q_D kc_I (r_F kK 0) c) (ht : l_tok c = true) (ho : c.2.2.1 = [(some (false, x, x), [])]) {M1 : q_MI} (hM : (q_gM q_D)[c.1]? = some M1) {ys : List Value} {zs : List Int} {m : q_M} (ha : bc_args c.2.1 ys zs) (hJ : l_J m) :
    ∃ (n : Nat) (m1 : q_M), q_run q_D n M1 0 (lv_args 0 ys) [] m = some (some (.int (Int32.ofInt x)), m1) ∧ l_J m1 ∧ q_same c.2.2.2.1 m m1 := by
  obtain ⟨n, r, m1, h1, h2, h3, o, o1, o2⟩ := l_run1 hc ht hM ha hJ
  rw [ho] at o1
  have e := List.mem_singleton.mp o1
  subst e
  unfold bc_out at o2
  cases r with
  | none => exact o2.elim
  | some y =>
    obtain ⟨z, ⟨w, rfl, w2⟩, z2, z3, -⟩ := o2
    have : Int32.ofInt x = w := by
      rw [show x = w.toInt by omega, Int32.ofInt_toInt]
    rw [this]
    exact ⟨n, m1, h1, h2, h3⟩
def l_rv (u v w : Int32) : Int32 := if u.toInt < 0 ∨ 3 < u.toInt ∨ v.toInt < 0 ∨ 3 < v.toInt ∨ 60 < w.toInt then Int32.ofInt (-2) else if w.toInt < 0 then Int32.ofInt (-3) else Int32.ofInt 0
def kr_C0 : b_Con := (209, [.inr (.inl 0), .inl (false, (-2147483648), (-1)), .inl (false, (-2147483648), 2147483647), .inl (false, (-2147483648), 2147483647)], [(some (false, (-2), (-2)), [])], [(85, 1, 1), (85, 2, 2), (86, 0, 59), (87, 1, 1), (87, 2, 2), (88, 0, 59), (89, 1, 1), (89, 2, 2), (90, 0, 59), (91, 1, 1), (91, 2, 2), (92, 0, 59)], [])
set_option maxRecDepth 100000 in
theorem kr_C0_k : b_chk r_hk q_D kc_I r_fp 3000 kr_C0 [142] [kc_230, kc_232, kc_234, kc_236] []
   [] = true := by decide +kernel
theorem kr_C0_a : bc_ok q_D kc_I (r_F kK 0) kr_C0 := b_chk_ok (r_hk_ok kc_Iok kK1) kc_srt (r_bgF kc_Iok) kr_C0_k (ka_cons (ka_230 0) (ka_cons (ka_232 0) (ka_cons (ka_234 0) (ka_cons (ka_236 0) ka_nil))))
def kr_C1 : b_Con := (209, [.inr (.inl 0), .inl (false, 4, 2147483647), .inl (false, (-2147483648), 2147483647), .inl (false, (-2147483648), 2147483647)], [(some (false, (-2), (-2)), [])], [(85, 1, 1), (85, 2, 2), (86, 0, 59), (87, 1, 1), (87, 2, 2), (88, 0, 59), (89, 1, 1), (89, 2, 2), (90, 0, 59), (91, 1, 1), (91, 2, 2), (92, 0, 59)], [])
set_option maxRecDepth 100000 in
theorem kr_C1_k : b_chk r_hk q_D kc_I r_fp 3000 kr_C1 [142] [kc_230, kc_232, kc_234, kc_236] []
   [] = true := by decide +kernel
theorem kr_C1_a : bc_ok q_D kc_I (r_F kK 0) kr_C1 := b_chk_ok (r_hk_ok kc_Iok kK1) kc_srt (r_bgF kc_Iok) kr_C1_k (ka_cons (ka_230 0) (ka_cons (ka_232 0) (ka_cons (ka_234 0) (ka_cons (ka_236 0) ka_nil))))
def kr_C2 : b_Con := (209, [.inr (.inl 0), .inl (false, 0, 3), .inl (false, (-2147483648), (-1)), .inl (false, (-2147483648), 2147483647)], [(some (false, (-2), (-2)), [])], [(85, 1, 1), (85, 2, 2), (86, 0, 59), (87, 1, 1), (87, 2, 2), (88, 0, 59), (89, 1, 1), (89, 2, 2), (90, 0, 59), (91, 1, 1), (91, 2, 2), (92, 0, 59)], [])
set_option maxRecDepth 100000 in
theorem kr_C2_k : b_chk r_hk q_D kc_I r_fp 3000 kr_C2 [142] [kc_230, kc_232, kc_234, kc_236] []
   [] = true := by decide +kernel
theorem kr_C2_a : bc_ok q_D kc_I (r_F kK 0) kr_C2 := b_chk_ok (r_hk_ok kc_Iok kK1) kc_srt (r_bgF kc_Iok) kr_C2_k (ka_cons (ka_230 0) (ka_cons (ka_232 0) (ka_cons (ka_234 0) (ka_cons (ka_236 0) ka_nil))))
def kr_C3 : b_Con := (209, [.inr (.inl 0), .inl (false, 0, 3), .inl (false, 4, 2147483647), .inl (false, (-2147483648), 2147483647)], [(some (false, (-2), (-2)), [])], [(85, 1, 1), (85, 2, 2), (86, 0, 59), (87, 1, 1), (87, 2, 2), (88, 0, 59), (89, 1, 1), (89, 2, 2), (90, 0, 59), (91, 1, 1), (91, 2, 2), (92, 0, 59)], [])
set_option maxRecDepth 100000 in
theorem kr_C3_k : b_chk r_hk q_D kc_I r_fp 3000 kr_C3 [142] [kc_230, kc_232, kc_234, kc_236] []
   [] = true := by decide +kernel
theorem kr_C3_a : bc_ok q_D kc_I (r_F kK 0) kr_C3 := b_chk_ok (r_hk_ok kc_Iok kK1) kc_srt (r_bgF kc_Iok) kr_C3_k (ka_cons (ka_230 0) (ka_cons (ka_232 0) (ka_cons (ka_234 0) (ka_cons (ka_236 0) ka_nil))))
def kr_C4 : b_Con := (209, [.inr (.inl 0), .inl (false, 0, 3), .inl (false, 0, 3), .inl (false, 61, 2147483647)], [(some (false, (-2), (-2)), [])], [(85, 1, 1), (85, 2, 2), (86, 0, 59), (87, 1, 1), (87, 2, 2), (88, 0, 59), (89, 1, 1), (89, 2, 2), (90, 0, 59), (91, 1, 1), (91, 2, 2), (92, 0, 59)], [])
set_option maxRecDepth 100000 in
theorem kr_C4_k : b_chk r_hk q_D kc_I r_fp 3000 kr_C4 [142] [kc_230, kc_232, kc_234, kc_236] []
   [] = true := by decide +kernel
theorem kr_C4_a : bc_ok q_D kc_I (r_F kK 0) kr_C4 := b_chk_ok (r_hk_ok kc_Iok kK1) kc_srt (r_bgF kc_Iok) kr_C4_k (ka_cons (ka_230 0) (ka_cons (ka_232 0) (ka_cons (ka_234 0) (ka_cons (ka_236 0) ka_nil))))
def kr_C5 : b_Con := (209, [.inr (.inl 0), .inl (false, 0, 3), .inl (false, 0, 3), .inl (false, (-2147483648), (-1))], [(some (false, (-3), (-3)), [])], [(85, 1, 1), (85, 2, 2), (86, 0, 59), (87, 1, 1), (87, 2, 2), (88, 0, 59), (89, 1, 1), (89, 2, 2), (90, 0, 59), (91, 1, 1), (91, 2, 2), (92, 0, 59)], [])
set_option maxRecDepth 100000 in
theorem kr_C5_k : b_chk r_hk q_D kc_I r_fp 3000 kr_C5 [142] [kc_230, kc_232, kc_234, kc_236] []
   [] = true := by decide +kernel
theorem kr_C5_a : bc_ok q_D kc_I (r_F kK 0) kr_C5 := b_chk_ok (r_hk_ok kc_Iok kK1) kc_srt (r_bgF kc_Iok) kr_C5_k (ka_cons (ka_230 0) (ka_cons (ka_232 0) (ka_cons (ka_234 0) (ka_cons (ka_236 0) ka_nil))))
def kr_C6 : b_Con := (209, [.inr (.inl 0), .inl (false, 0, 3), .inl (false, 0, 3), .inl (false, 0, 60)], [(some (false, 0, 0), [])], [(85, 1, 1), (85, 2, 2), (86, 0, 59), (87, 1, 1), (87, 2, 2), (88, 0, 59), (89, 1, 1), (89, 2, 2), (90, 0, 59), (91, 1, 1), (91, 2, 2), (92, 0, 59)], [])
set_option maxRecDepth 100000 in
theorem kr_C6_k : b_chk r_hk q_D kc_I r_fp 3000 kr_C6 [142] [kc_230, kc_232, kc_234, kc_236] []
   [] = true := by decide +kernel
theorem kr_C6_a : bc_ok q_D kc_I (r_F kK 0) kr_C6 := b_chk_ok (r_hk_ok kc_Iok kK1) kc_srt (r_bgF kc_Iok) kr_C6_k (ka_cons (ka_230 0) (ka_cons (ka_232 0) (ka_cons (ka_234 0) (ka_cons (ka_236 0) ka_nil))))
theorem l_rowC {m : q_M} (hJ : l_J m) (u v w : Int32) : ∃ (n : Nat) (m1 : q_M), q_run q_D n q_m209 0 (lv_args 0 [.ref 0, .int u, .int v, .int w]) [] m = some (some (.int (l_rv u v w)), m1) ∧ l_J m1 := by
  have u1 := Int32.le_toInt u
  have u2 := Int32.toInt_lt u
  have v1 := Int32.le_toInt v
  have v2 := Int32.toInt_lt v
  have w1 := Int32.le_toInt w
  have w2 := Int32.toInt_lt w
  have hM : (q_gM q_D)[209]? = some q_m209 := rfl
  unfold l_rv
  by_cases c0 : u.toInt < 0
  · obtain ⟨n, m1, h1, h2, -⟩ := l_ex kr_C0_a (by decide +kernel) rfl hM (ys := [.ref 0, .int u, .int v, .int w]) (zs := [u.toInt, v.toInt, w.toInt]) ⟨rfl, ⟨u, rfl, rfl⟩, by omega, by omega, ⟨v, rfl, rfl⟩, by omega, by omega, ⟨w, rfl, rfl⟩, by omega, by omega, rfl⟩ hJ
    rw [if_pos (by omega)]
    exact ⟨n, m1, h1, h2⟩
  by_cases c1 : 3 < u.toInt
  · obtain ⟨n, m1, h1, h2, -⟩ := l_ex kr_C1_a (by decide +kernel) rfl hM (ys := [.ref 0, .int u, .int v, .int w]) (zs := [u.toInt, v.toInt, w.toInt]) ⟨rfl, ⟨u, rfl, rfl⟩, by omega, by omega, ⟨v, rfl, rfl⟩, by omega, by omega, ⟨w, rfl, rfl⟩, by omega, by omega, rfl⟩ hJ
    rw [if_pos (by omega)]
    exact ⟨n, m1, h1, h2⟩
  by_cases c2 : v.toInt < 0
  · obtain ⟨n, m1, h1, h2, -⟩ := l_ex kr_C2_a (by decide +kernel) rfl hM (ys := [.ref 0, .int u, .int v, .int w]) (zs := [u.toInt, v.toInt, w.toInt]) ⟨rfl, ⟨u, rfl, rfl⟩, by omega, by omega, ⟨v, rfl, rfl⟩, by omega, by omega, ⟨w, rfl, rfl⟩, by omega, by omega, rfl⟩ hJ
    rw [if_pos (by omega)]
    exact ⟨n, m1, h1, h2⟩
  by_cases c3 : 3 < v.toInt
  · obtain ⟨n, m1, h1, h2, -⟩ := l_ex kr_C3_a (by decide +kernel) rfl hM (ys := [.ref 0, .int u, .int v, .int w]) (zs := [u.toInt, v.toInt, w.toInt]) ⟨rfl, ⟨u, rfl, rfl⟩, by omega, by omega, ⟨v, rfl, rfl⟩, by omega, by omega, ⟨w, rfl, rfl⟩, by omega, by omega, rfl⟩ hJ
    rw [if_pos (by omega)]
    exact ⟨n, m1, h1, h2⟩
  by_cases c4 : 60 < w.toInt
  · obtain ⟨n, m1, h1, h2, -⟩ := l_ex kr_C4_a (by decide +kernel) rfl hM (ys := [.ref 0, .int u, .int v, .int w]) (zs := [u.toInt, v.toInt, w.toInt]) ⟨rfl, ⟨u, rfl, rfl⟩, by omega, by omega, ⟨v, rfl, rfl⟩, by omega, by omega, ⟨w, rfl, rfl⟩, by omega, by omega, rfl⟩ hJ
    rw [if_pos (by omega)]
    exact ⟨n, m1, h1, h2⟩
  rw [if_neg (by omega)]
  by_cases c5 : w.toInt < 0
  · obtain ⟨n, m1, h1, h2, -⟩ := l_ex kr_C5_a (by decide +kernel) rfl hM (ys := [.ref 0, .int u, .int v, .int w]) (zs := [u.toInt, v.toInt, w.toInt]) ⟨rfl, ⟨u, rfl, rfl⟩, by omega, by omega, ⟨v, rfl, rfl⟩, by omega, by omega, ⟨w, rfl, rfl⟩, by omega, by omega, rfl⟩ hJ
    rw [if_pos c5]
    exact ⟨n, m1, h1, h2⟩
  · obtain ⟨n, m1, h1, h2, -⟩ := l_ex kr_C6_a (by decide +kernel) rfl hM (ys := [.ref 0, .int u, .int v, .int w]) (zs := [u.toInt, v.toInt, w.toInt]) ⟨rfl, ⟨u, rfl, rfl⟩, by omega, by omega, ⟨v, rfl, rfl⟩, by omega, by omega, ⟨w, rfl, rfl⟩, by omega, by omega, rfl⟩ hJ
    rw [if_neg c5]
    exact ⟨n, m1, h1, h2⟩
theorem l_rowokC {a : Nat} {xs : Nat → Int32} {p q : Nat} : l_ok (fun _ => l_J) a xs (fun _ => l_rv (xs (a + 1)) (xs (a + 2)) (xs (a + 3))) (209, [(0, 0), (3, 1), (3, 2), (3, 3)], (7, 0), (p, q)) := by
  intro m ys rest hp hs hr
  obtain ⟨M1, k1, k2⟩ := l_cal_ok (by decide +kernel : l_cal 209 [(0, 0), (3, 1), (3, 2), (3, 3)] = true) hp.1 hs hr
  have hM : (q_gM q_D)[209]? = some q_m209 := rfl
  have e : M1 = q_m209 := Option.some.inj (k1.symm.trans hM)
  subst e
  obtain ⟨y0, ys0, rfl, h0, hs⟩ := g_ca hs
  obtain ⟨y1, ys1, rfl, h1, hs⟩ := g_ca hs
  obtain ⟨y2, ys2, rfl, h2, hs⟩ := g_ca hs
  obtain ⟨y3, ys3, rfl, h3, hs⟩ := g_ca hs
  have e4 := g_na hs
  subst e4
  have h0 : y0 = .ref 0 := h0
  have h1 : y1 = .int (xs (a + 1)) := h1
  have h2 : y2 = .int (xs (a + 2)) := h2
  have h3 : y3 = .int (xs (a + 3)) := h3
  subst h0 h1 h2 h3
  obtain ⟨n, m1, r1, r2⟩ := l_rowC hp (xs (a + 1)) (xs (a + 2)) (xs (a + 3))
  exact ⟨_, n, _, m1, k2, r1, r2, rfl⟩
def kr_M0 : b_Con := (366, [.inr (.inl 93), .inl (false, (-2147483648), (-1)), .inl (false, (-2147483648), 2147483647), .inl (false, (-2147483648), 2147483647)], [(some (false, (-2), (-2)), [])], [(114, 0, 3), (115, 0, 3), (116, 0, 239)], [])
set_option maxRecDepth 100000 in
theorem kr_M0_k : b_chk r_hk q_D kc_I r_fp 3000 kr_M0 [218, 294] [] []
   [] = true := by decide +kernel
theorem kr_M0_a : bc_ok q_D kc_I (r_F kK 0) kr_M0 := b_chk_ok (r_hk_ok kc_Iok kK1) kc_srt (r_bgF kc_Iok) kr_M0_k ka_nil
def kr_M1 : b_Con := (366, [.inr (.inl 93), .inl (false, 4, 2147483647), .inl (false, (-2147483648), 2147483647), .inl (false, (-2147483648), 2147483647)], [(some (false, (-2), (-2)), [])], [(114, 0, 3), (115, 0, 3), (116, 0, 239)], [])
set_option maxRecDepth 100000 in
theorem kr_M1_k : b_chk r_hk q_D kc_I r_fp 3000 kr_M1 [218, 294] [] []
   [] = true := by decide +kernel
theorem kr_M1_a : bc_ok q_D kc_I (r_F kK 0) kr_M1 := b_chk_ok (r_hk_ok kc_Iok kK1) kc_srt (r_bgF kc_Iok) kr_M1_k ka_nil
def kr_M2 : b_Con := (366, [.inr (.inl 93), .inl (false, 0, 3), .inl (false, (-2147483648), (-1)), .inl (false, (-2147483648), 2147483647)], [(some (false, (-2), (-2)), [])], [(114, 0, 3), (115, 0, 3), (116, 0, 239)], [])
set_option maxRecDepth 100000 in
theorem kr_M2_k : b_chk r_hk q_D kc_I r_fp 3000 kr_M2 [218, 294] [] []
   [] = true := by decide +kernel
theorem kr_M2_a : bc_ok q_D kc_I (r_F kK 0) kr_M2 := b_chk_ok (r_hk_ok kc_Iok kK1) kc_srt (r_bgF kc_Iok) kr_M2_k ka_nil
def kr_M3 : b_Con := (366, [.inr (.inl 93), .inl (false, 0, 3), .inl (false, 4, 2147483647), .inl (false, (-2147483648), 2147483647)], [(some (false, (-2), (-2)), [])], [(114, 0, 3), (115, 0, 3), (116, 0, 239)], [])
set_option maxRecDepth 100000 in
theorem kr_M3_k : b_chk r_hk q_D kc_I r_fp 3000 kr_M3 [218, 294] [] []
   [] = true := by decide +kernel
theorem kr_M3_a : bc_ok q_D kc_I (r_F kK 0) kr_M3 := b_chk_ok (r_hk_ok kc_Iok kK1) kc_srt (r_bgF kc_Iok) kr_M3_k ka_nil
def kr_M4 : b_Con := (366, [.inr (.inl 93), .inl (false, 0, 3), .inl (false, 0, 3), .inl (false, 61, 2147483647)], [(some (false, (-2), (-2)), [])], [(114, 0, 3), (115, 0, 3), (116, 0, 239)], [])
set_option maxRecDepth 100000 in
theorem kr_M4_k : b_chk r_hk q_D kc_I r_fp 3000 kr_M4 [218, 294] [] []
   [] = true := by decide +kernel
theorem kr_M4_a : bc_ok q_D kc_I (r_F kK 0) kr_M4 := b_chk_ok (r_hk_ok kc_Iok kK1) kc_srt (r_bgF kc_Iok) kr_M4_k ka_nil
def kr_M5 : b_Con := (366, [.inr (.inl 93), .inl (false, 0, 3), .inl (false, 0, 3), .inl (false, (-2147483648), (-1))], [(some (false, (-3), (-3)), [])], [(114, 0, 3), (115, 0, 3), (116, 0, 239)], [])
set_option maxRecDepth 100000 in
theorem kr_M5_k : b_chk r_hk q_D kc_I r_fp 3000 kr_M5 [218, 294] [] []
   [] = true := by decide +kernel
theorem kr_M5_a : bc_ok q_D kc_I (r_F kK 0) kr_M5 := b_chk_ok (r_hk_ok kc_Iok kK1) kc_srt (r_bgF kc_Iok) kr_M5_k ka_nil
def kr_M6 : b_Con := (366, [.inr (.inl 93), .inl (false, 0, 3), .inl (false, 0, 3), .inl (false, 0, 60)], [(some (false, 0, 0), [])], [(114, 0, 3), (115, 0, 3), (116, 0, 239)], [])
set_option maxRecDepth 100000 in
theorem kr_M6_k : b_chk r_hk q_D kc_I r_fp 3000 kr_M6 [218, 294] [] []
   [(52, [], [], [((4, [(0, 0, 3), (1, 0, 3), (2, 0, 60), (3, 0, 60)], [], [], []), [(0, .inr (.inl 93)), (1, .inl (false, ([(0, 1)], 0))), (2, .inl (false, ([(1, 1)], 0))), (3, .inl (false, ([(2, 1)], 0))), (4, .inl (false, ([(3, 1)], 0)))], ([(3, (-1))], 60))])] = true := by decide +kernel
theorem kr_M6_a : bc_ok q_D kc_I (r_F kK 0) kr_M6 := b_chk_ok (r_hk_ok kc_Iok kK1) kc_srt (r_bgF kc_Iok) kr_M6_k ka_nil
theorem l_rowM {m : q_M} (hJ : l_J m) (u v w : Int32) : ∃ (n : Nat) (m1 : q_M), q_run q_D n q_m366 0 (lv_args 0 [.ref 93, .int u, .int v, .int w]) [] m = some (some (.int (l_rv u v w)), m1) ∧ l_J m1 := by
  have u1 := Int32.le_toInt u
  have u2 := Int32.toInt_lt u
  have v1 := Int32.le_toInt v
  have v2 := Int32.toInt_lt v
  have w1 := Int32.le_toInt w
  have w2 := Int32.toInt_lt w
  have hM : (q_gM q_D)[366]? = some q_m366 := rfl
  unfold l_rv
  by_cases c0 : u.toInt < 0
  · obtain ⟨n, m1, h1, h2, -⟩ := l_ex kr_M0_a (by decide +kernel) rfl hM (ys := [.ref 93, .int u, .int v, .int w]) (zs := [u.toInt, v.toInt, w.toInt]) ⟨rfl, ⟨u, rfl, rfl⟩, by omega, by omega, ⟨v, rfl, rfl⟩, by omega, by omega, ⟨w, rfl, rfl⟩, by omega, by omega, rfl⟩ hJ
    rw [if_pos (by omega)]
    exact ⟨n, m1, h1, h2⟩
  by_cases c1 : 3 < u.toInt
  · obtain ⟨n, m1, h1, h2, -⟩ := l_ex kr_M1_a (by decide +kernel) rfl hM (ys := [.ref 93, .int u, .int v, .int w]) (zs := [u.toInt, v.toInt, w.toInt]) ⟨rfl, ⟨u, rfl, rfl⟩, by omega, by omega, ⟨v, rfl, rfl⟩, by omega, by omega, ⟨w, rfl, rfl⟩, by omega, by omega, rfl⟩ hJ
    rw [if_pos (by omega)]
    exact ⟨n, m1, h1, h2⟩
  by_cases c2 : v.toInt < 0
  · obtain ⟨n, m1, h1, h2, -⟩ := l_ex kr_M2_a (by decide +kernel) rfl hM (ys := [.ref 93, .int u, .int v, .int w]) (zs := [u.toInt, v.toInt, w.toInt]) ⟨rfl, ⟨u, rfl, rfl⟩, by omega, by omega, ⟨v, rfl, rfl⟩, by omega, by omega, ⟨w, rfl, rfl⟩, by omega, by omega, rfl⟩ hJ
    rw [if_pos (by omega)]
    exact ⟨n, m1, h1, h2⟩
  by_cases c3 : 3 < v.toInt
  · obtain ⟨n, m1, h1, h2, -⟩ := l_ex kr_M3_a (by decide +kernel) rfl hM (ys := [.ref 93, .int u, .int v, .int w]) (zs := [u.toInt, v.toInt, w.toInt]) ⟨rfl, ⟨u, rfl, rfl⟩, by omega, by omega, ⟨v, rfl, rfl⟩, by omega, by omega, ⟨w, rfl, rfl⟩, by omega, by omega, rfl⟩ hJ
    rw [if_pos (by omega)]
    exact ⟨n, m1, h1, h2⟩
  by_cases c4 : 60 < w.toInt
  · obtain ⟨n, m1, h1, h2, -⟩ := l_ex kr_M4_a (by decide +kernel) rfl hM (ys := [.ref 93, .int u, .int v, .int w]) (zs := [u.toInt, v.toInt, w.toInt]) ⟨rfl, ⟨u, rfl, rfl⟩, by omega, by omega, ⟨v, rfl, rfl⟩, by omega, by omega, ⟨w, rfl, rfl⟩, by omega, by omega, rfl⟩ hJ
    rw [if_pos (by omega)]
    exact ⟨n, m1, h1, h2⟩
  rw [if_neg (by omega)]
  by_cases c5 : w.toInt < 0
  · obtain ⟨n, m1, h1, h2, -⟩ := l_ex kr_M5_a (by decide +kernel) rfl hM (ys := [.ref 93, .int u, .int v, .int w]) (zs := [u.toInt, v.toInt, w.toInt]) ⟨rfl, ⟨u, rfl, rfl⟩, by omega, by omega, ⟨v, rfl, rfl⟩, by omega, by omega, ⟨w, rfl, rfl⟩, by omega, by omega, rfl⟩ hJ
    rw [if_pos c5]
    exact ⟨n, m1, h1, h2⟩
  · obtain ⟨n, m1, h1, h2, -⟩ := l_ex kr_M6_a (by decide +kernel) rfl hM (ys := [.ref 93, .int u, .int v, .int w]) (zs := [u.toInt, v.toInt, w.toInt]) ⟨rfl, ⟨u, rfl, rfl⟩, by omega, by omega, ⟨v, rfl, rfl⟩, by omega, by omega, ⟨w, rfl, rfl⟩, by omega, by omega, rfl⟩ hJ
    rw [if_neg c5]
    exact ⟨n, m1, h1, h2⟩
theorem l_rowokM {a : Nat} {xs : Nat → Int32} {p q : Nat} : l_ok (fun _ => l_J) a xs (fun _ => l_rv (xs (a + 1)) (xs (a + 2)) (xs (a + 3))) (366, [(0, 93), (3, 1), (3, 2), (3, 3)], (7, 0), (p, q)) := by
  intro m ys rest hp hs hr
  obtain ⟨M1, k1, k2⟩ := l_cal_ok (by decide +kernel : l_cal 366 [(0, 93), (3, 1), (3, 2), (3, 3)] = true) hp.1 hs hr
  have hM : (q_gM q_D)[366]? = some q_m366 := rfl
  have e : M1 = q_m366 := Option.some.inj (k1.symm.trans hM)
  subst e
  obtain ⟨y0, ys0, rfl, h0, hs⟩ := g_ca hs
  obtain ⟨y1, ys1, rfl, h1, hs⟩ := g_ca hs
  obtain ⟨y2, ys2, rfl, h2, hs⟩ := g_ca hs
  obtain ⟨y3, ys3, rfl, h3, hs⟩ := g_ca hs
  have e4 := g_na hs
  subst e4
  have h0 : y0 = .ref 93 := h0
  have h1 : y1 = .int (xs (a + 1)) := h1
  have h2 : y2 = .int (xs (a + 2)) := h2
  have h3 : y3 = .int (xs (a + 3)) := h3
  subst h0 h1 h2 h3
  obtain ⟨n, m1, r1, r2⟩ := l_rowM hp (xs (a + 1)) (xs (a + 2)) (xs (a + 3))
  exact ⟨_, n, _, m1, k2, r1, r2, rfl⟩

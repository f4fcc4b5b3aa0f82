/-! THE TOWN IS READ: each line goes on in the text -/
def kt_T3 : b_Te := ((0, [], [], [], [(0, []), (1, [])]), [(0, .inr (.inl 93)), (1, .inl (false, ([], 277)))], ([], 0))
def kt_T1 : b_Te := ((0, [], [], [], [(123, []), (0, []), (1, [])]), [(0, .inr (.inl 93)), (1, .inl (false, ([], 277)))], ([], 0))
def kt_T0 : b_Te := ((0, [], [], [], [(120, []), (0, []), (1, [])]), [(0, .inr (.inl 93)), (1, .inl (false, ([], 277)))], ([], 0))
def kt_T2 : b_Te := ((0, [], [], [], [(125, []), (0, []), (1, [])]), [(0, .inr (.inl 93)), (1, .inl (false, ([], 277)))], ([], 0))
def kt_30 : b_H := (30, [], [], [((1, [(0, 0, 277)], [], [], [(0, []), (126, [([(0, 1)], 0)])]), [(0, .inr (.inl 93)), (1, .inl (false, ([(0, 1)], 0)))], ([(0, (-1))], 300))])
def kt_87 : b_H := (87, [], [], [((1, [(0, 0, 277)], [], [], [(1, []), (10, [([(0, 1)], 0)])]), [(0, .inr (.inl 93)), (1, .inl (false, ([(0, 1)], 0)))], ([(0, (-1))], 300))])
set_option maxRecDepth 100000 in
theorem kt_0 : b_chkL r_hk q_D kc_I r_fp 3000 kc_317 [226] [kc_316, kc_246] [] [kt_30, (54, [], [], [kt_T3])] 54 = true := by decide +kernel
set_option maxRecDepth 100000 in
theorem kt_1 : b_chkF r_hk q_D kc_I r_fp 3000 kc_317 [226] [kc_316, kc_246] [] [(54, [], [], [kt_T1]), kt_87] 54 kt_T0 = true := by decide +kernel
set_option maxRecDepth 100000 in
theorem kt_2 : b_chkF r_hk q_D kc_I r_fp 3000 kc_317 [226] [] [] [kt_87] 54 kt_T2 = true := by decide +kernel
theorem kt_fin {K : r_K} {g g1 : Int} {m : q_M} {r : Option Value} (h : bc_fin (r_F K g) m ((b_eA kc_317.2.1 0).2.2, kc_317.2.2.1) r) : bc_fin (r_F K g1) m ((b_eA kc_317.2.1 0).2.2, kc_317.2.2.1) r := by
  obtain ⟨o, o1, o2⟩ := h
  have e := List.mem_singleton.mp o1
  subst e
  refine ⟨_, List.mem_singleton.mpr rfl, ?_⟩
  cases r with
  | none => exact o2.elim
  | some y =>
    obtain ⟨z, z1, z2, z3, z4⟩ := o2
    refine ⟨z, z1, z2, z3, fun t ht => ?_⟩
    obtain ⟨ys, y1, y2⟩ := z4 t ht
    have e := List.mem_singleton.mp ht
    subst e
    refine ⟨ys, ?_, y2⟩
    cases ys with
    | nil => exact y1
    | cons a l => exact y1
theorem bi_fld {I : List b_I} {m : q_M} {c ci j : Nat} {fs : List b_FI} {lo hi : Int} (hM : bi_M I m) (hI : I[c]? = some (.inr (ci, fs))) (hf : fs[j]? = some (.inl (false, lo, hi))) : lo ≤ q_i m c j ∧ q_i m c j ≤ hi := by
  obtain ⟨y, hy, vs, rfl, h2⟩ := bi_get hM hI
  obtain ⟨z, hz, w, rfl, w1, w2⟩ := g_2_get h2 hf
  unfold q_i
  rw [q_at_obj hy, List.getD_eq_getElem?_getD, hz]
  exact ⟨w1, w2⟩
set_option maxRecDepth 100000 in
theorem kt_at {m : q_M} (h : bi_M kc_I m) : 0 ≤ q_i m 93 8 ∧ q_i m 93 8 ≤ 1200 := bi_fld h (rfl : kc_I[93]? = some (.inr (10, _))) rfl
theorem kt_loop {K : r_K} (hK : r_K1 K) (h1 : ∀ g, bc_ok q_D kc_I (r_F K g) kc_316) (h2 : ∀ g, bc_ok q_D kc_I (r_F K g) kc_246) {M : q_MI} (hM : (q_gM q_D)[kc_317.1]? = some M) : ∀ (n : Nat) (g : Int) (l : q_L) (m : q_M), (1201 - q_i m 93 8).toNat ≤ n → bi_M kc_I m → r_J m 94 0 → r_J m 99 0 → bg_L [] kt_T3.2.1 l →
    ∃ (k : Nat) (r : Option Value) (m1 : q_M), q_run q_D k M 54 l [] m = some (r, m1) ∧ bi_M kc_I m1 ∧ q_same kc_317.2.2.2.1 m m1 ∧ bc_fin (r_F K g) m1 ((b_eA kc_317.2.1 0).2.2, kc_317.2.2.1) r := by
  intro n
  induction n with
  | zero =>
    intro g l m hn hI
    have := kt_at hI
    omega
  | succ n ih =>
    intro g l m hn hI j0 j1 hl
    obtain ⟨k, r, m1, r1, r2, r3, r4⟩ := b_chkF_ok (F := r_F K (q_i m 93 8)) (r_hk_ok kc_Iok hK) kc_srt (r_bgF kc_Iok) kt_1 (by
      intro d hd
      rcases List.mem_cons.mp hd with rfl | hd
      · exact h1 _
      · have := List.mem_singleton.mp hd
        subst this
        exact h2 _) hM (by
      intro x hx hxl T hT l' m' ⟨zs, f1, f2, f3⟩
      rcases List.mem_cons.mp hx with rfl | hx
      rotate_left
      · have := List.mem_singleton.mp hx
        subst this
        exact absurd hxl (by decide)
      have := List.mem_singleton.mp hT
      subst this
      have hz : zs = [] := List.eq_nil_of_length_eq_zero f1.1
      subst hz
      obtain ⟨y, y1, y2⟩ := f1.2.2.2.2 (123, []) (by simp [kt_T1])
      have := g_na y1
      subst this
      have y2 : q_i m 93 8 < q_i m' 93 8 ∨ q_i m' 93 10 = 0 ∨ q_i m' 93 12 ≠ 0 := y2
      obtain ⟨w, w1, w2⟩ := f1.2.2.2.2 (0, []) (by simp [kt_T1])
      have := g_na w1
      subst this
      have w2 : r_J m' 94 0 := w2
      obtain ⟨u, u1, u2⟩ := f1.2.2.2.2 (1, []) (by simp [kt_T1])
      have := g_na u1
      subst this
      have u2 : r_J m' 99 0 := u2
      have ha := kt_at hI
      by_cases hat : q_i m 93 8 < q_i m' 93 8
      · exact ih _ l' m' (by omega) f3 w2 u2 f2
      · refine b_chkF_ok (F := r_F K (q_i m 93 8)) (r_hk_ok kc_Iok hK) kc_srt (r_bgF kc_Iok) kt_2 (by intro d hd; cases hd) hM (by
          intro x hx hxl
          have := List.mem_singleton.mp hx
          subst this
          exact absurd hxl (by decide)) (zs := []) (l := l') (m := m') ?_ f2 f3
        refine ⟨rfl, (fun q hq => by cases hq), (fun q hq => by cases hq), (fun q hq => by cases hq), ?_⟩
        intro t ht
        rcases List.mem_cons.mp ht with rfl | ht
        · exact ⟨[], trivial, y2.resolve_left hat⟩
        rcases List.mem_cons.mp ht with rfl | ht
        · exact ⟨[], trivial, w2⟩
        have := List.mem_singleton.mp ht
        subst this
        exact ⟨[], trivial, u2⟩) (zs := []) (l := l) (m := m) (by
      refine ⟨rfl, (fun q hq => by cases hq), (fun q hq => by cases hq), (fun q hq => by cases hq), ?_⟩
      intro t ht
      rcases List.mem_cons.mp ht with rfl | ht
      · exact ⟨[], trivial, Int.le_refl _⟩
      rcases List.mem_cons.mp ht with rfl | ht
      · exact ⟨[], trivial, j0⟩
      have := List.mem_singleton.mp ht
      subst this
      exact ⟨[], trivial, j1⟩) hl hI
    exact ⟨k, r, m1, r1, r2, r3, kt_fin r4⟩
theorem kt_town {K : r_K} (hK : r_K1 K) (h1 : ∀ g, bc_ok q_D kc_I (r_F K g) kc_316) (h2 : ∀ g, bc_ok q_D kc_I (r_F K g) kc_246) (g : Int) : bc_ok q_D kc_I (r_F K g) kc_317 := by
  refine b_chkL_ok (r_hk_ok kc_Iok hK) kc_srt (r_bgF kc_Iok) kt_0 (by
    intro d hd
    rcases List.mem_cons.mp hd with rfl | hd
    · exact h1 _
    · have := List.mem_singleton.mp hd
      subst this
      exact h2 _) ?_
  intro M hM x hx hxl T hT l m ⟨zs, f1, f2, f3⟩
  rcases List.mem_cons.mp hx with rfl | hx
  · exact absurd hxl (by decide)
  have := List.mem_singleton.mp hx
  subst this
  have := List.mem_singleton.mp hT
  subst this
  have hz : zs = [] := List.eq_nil_of_length_eq_zero f1.1
  subst hz
  obtain ⟨w, w1, w2⟩ := f1.2.2.2.2 (0, []) (by simp [kt_T3])
  have := g_na w1
  subst this
  obtain ⟨u, u1, u2⟩ := f1.2.2.2.2 (1, []) (by simp [kt_T3])
  have := g_na u1
  subst this
  exact kt_loop hK h1 h2 hM _ g l m (Nat.le_refl _) f3 w2 u2 f2

/-! FROM A TEMPLATE AT ANY PLACE, one head on trust: what a call leaves behind, exactly -/
noncomputable def b_chkG (hk : b_Hk) (G : q_G) (I : List b_I) (fp : Nat → b_W) (n : Nat) (c : b_Con) (inl : List Nat) (deps : List b_Con) (cuts : List (Nat × Nat × List Int)) (hs : List b_H) (p0 lp : Nat) (T : b_Te) : Bool := match (q_gM G)[c.1]? with
  | none => false
  | some M => (match a_at M (q_mC M) p0 with
    | some cd => b_from hk G I fp (inl, deps, cuts, c.2.2.2.1, ((b_eA c.2.1 0).2.2, c.2.2.1), hs, none) n (T.1, [(M, cd, T.2.1, [])])
    | none => false)
    && b_hsL hk G I fp n M inl deps cuts c.2.2.2.1 ((b_eA c.2.1 0).2.2, c.2.2.1) hs lp
theorem b_chkG_ok {F : Nat → List Int → q_M → Prop} {fp : Nat → b_W} {I : List b_I} {G : q_G} {hk : b_Hk} (hH : bg_Hk I F hk) (hsG : ∀ M ∈ q_gM G, q_srt (q_mC M) = true) (hF : bg_F I fp F) {n : Nat} {c : b_Con} {inl : List Nat} {deps : List b_Con} {cuts : List (Nat × Nat × List Int)} {hs : List b_H} {p0 lp : Nat} {T : b_Te} (h : b_chkG hk G I fp n c inl deps cuts hs p0 lp T = true) (hd : ∀ d ∈ deps, bc_ok G I F d) {M : q_MI} (hM : (q_gM G)[c.1]? = some M)
    (ht : ∀ x ∈ hs, x.1 = lp → ∀ T ∈ x.2.2.2, ∀ l m, (∃ zs, bg_E F zs T.1 m ∧ bg_L zs T.2.1 l ∧ bi_M I m) → ∃ (k : Nat) (r : Option Value) (m1 : q_M), q_run G k M x.1 l [] m = some (r, m1) ∧ bi_M I m1 ∧ q_same c.2.2.2.1 m m1 ∧ bc_fin F m1 ((b_eA c.2.1 0).2.2, c.2.2.1) r)
    {l : q_L} {m : q_M} {zs : List Int} (e1 : bg_E F zs T.1 m) (e2 : bg_L zs T.2.1 l) (e3 : bi_M I m) : ∃ (k : Nat) (r : Option Value) (m1 : q_M), q_run G k M p0 l [] m = some (r, m1) ∧ bi_M I m1 ∧ q_same c.2.2.2.1 m m1 ∧ bc_fin F m1 ((b_eA c.2.1 0).2.2, c.2.2.1) r := by
  unfold b_chkG at h
  rw [hM] at h
  simp only [Bool.and_eq_true] at h
  obtain ⟨h0, hh⟩ := h
  have hsrt := hsG M (List.mem_of_getElem? hM)
  have hhd := b_hdL hH hsG hF hsrt hd hh ht
  split at h0
  rotate_left
  · cases h0
  rename_i cd hcd
  obtain ⟨J, jl, d1, d2, d3⟩ := a_at_ok hcd (List.suffix_refl _)
  have K := b_from_ok hH hsG hF (Z := (inl, deps, cuts, c.2.2.2.1, ((b_eA c.2.1 0).2.2, c.2.2.1), hs, none)) hd hhd h0 (m0 := m) (v := zs) (ps := [(M, p0, l, [])]) (m := m) ⟨e1, ⟨⟨rfl, hsrt, ⟨J, jl, d1, d2, d3⟩, e2, trivial⟩, trivial⟩, e3, q_same.rf, fun f hf => by cases hf; rfl, trivial⟩
  obtain ⟨k, r, m1, r1, r2⟩ := K
  exact ⟨k, r, m1, r1, r2⟩
/-- own facts in token 97 -/
def x_K (P : q_M → Prop) : r_K := fun _ r m => r = 0 ∧ P m
theorem x_K1 {P : q_M → Prop} : r_K1 (x_K P) := fun _ _ _ _ h h1 => h.1.trans h1.1.symm
def x_o : b_U := (some (false, 0, 0), [(97, [b_c 0, b_c 0])])
theorem x_fin {P : q_M → Prop} {g : Int} {m : q_M} {nA : Nat} (hP : P m) : bc_fin (r_F (x_K P) g) m (nA, [x_o]) (some (.int 0)) := by
  refine ⟨x_o, List.mem_singleton.mpr rfl, 0, ⟨0, rfl, rfl⟩, by decide, by decide, fun t ht => ?_⟩
  have e := List.mem_singleton.mp ht
  subst e
  exact ⟨[0, 0], ⟨rfl, hP⟩, Or.inl ⟨rfl, rfl⟩, Or.inl ⟨rfl, rfl⟩, trivial⟩
theorem x_get {P : q_M → Prop} {g : Int} {m : q_M} {nA : Nat} {r : Option Value} (h : bc_fin (r_F (x_K P) g) m (nA, [x_o]) r) : r = some (.int 0) ∧ P m := by
  obtain ⟨o, o1, o2⟩ := h
  have e := List.mem_singleton.mp o1
  subst e
  cases r with
  | none => exact o2.elim
  | some y =>
    obtain ⟨z, ⟨w, rfl, w1⟩, z2, z3, z4⟩ := o2
    obtain ⟨ys, y1, y2⟩ := z4 (97, [b_c 0, b_c 0]) (List.mem_singleton.mpr rfl)
    obtain ⟨a, ys1, rfl, ha, hs⟩ := g_ca y2
    obtain ⟨b, ys2, rfl, hb, hs⟩ := g_ca hs
    have e4 := g_na hs
    subst e4
    refine ⟨?_, y1.2⟩
    have e5 : w = 0 := by
      have : w.toInt = (0 : Int32).toInt := by
        show w.toInt = 0
        omega
      exact Int32.toInt_inj.mp this
    rw [e5]
theorem x_run {P : q_M → Prop} {g : Int} {c : b_Con} (ho : c.2.2.1 = [x_o]) {inl : List Nat} {deps : List b_Con} {cuts : List (Nat × Nat × List Int)} {hs : List b_H} {lp : Nat} {T : b_Te} (h : b_chkG r_hk q_D kc_I r_fp 3000 c inl deps cuts hs 0 lp T = true) (hd : ∀ d ∈ deps, bc_ok q_D kc_I (r_F (x_K P) g) d) {M : q_MI} (hM : (q_gM q_D)[c.1]? = some M)
    (hret : ∀ l m, q_run q_D 2 M lp l [] m = some (some (.int 0), m)) (hT : ∀ x ∈ hs, x.1 = lp → ∀ T ∈ x.2.2.2, ∀ zs m, bg_E (r_F (x_K P) g) zs T.1 m → P m)
    {l : q_L} {m : q_M} {zs : List Int} (e1 : bg_E (r_F (x_K P) g) zs T.1 m) (e2 : bg_L zs T.2.1 l) (e3 : bi_M kc_I m) : ∃ (n : Nat) (m1 : q_M), q_run q_D n M 0 l [] m = some (some (.int 0), m1) ∧ bi_M kc_I m1 ∧ q_same c.2.2.2.1 m m1 ∧ P m1 := by
  obtain ⟨n, r, m1, r1, r2, r3, r4⟩ := b_chkG_ok (F := r_F (x_K P) g) (r_hk_ok kc_Iok x_K1) kc_srt (r_bgF kc_Iok) h hd hM (fun x hx hxl T hT2 l m ⟨zs, f1, f2, f3⟩ => by
    refine ⟨2, some (.int 0), m, by rw [hxl]; exact hret l m, f3, q_same.rf, ?_⟩
    rw [ho]
    exact x_fin (hT x hx hxl T hT2 zs m f1)) e1 e2 e3
  rw [ho] at r4
  obtain ⟨rfl, hP⟩ := x_get r4
  exact ⟨n, m1, r1, r2, r3, hP⟩
/-- an answer, exactly -/
theorem x_ans {x : Int} {c : b_Con} (ho : c.2.2.1 = [(some (false, x, x), [])]) {inl : List Nat} {deps : List b_Con} {cuts : List (Nat × Nat × List Int)} {hs : List b_H} {T : b_Te} (h : b_chkG r_hk q_D kc_I r_fp 3000 c inl deps cuts hs 0 9999 T = true) (hno : hs.all (fun y => !(Nat.beq y.1 9999)) = true) (hd : ∀ d ∈ deps, bc_ok q_D kc_I (r_F kK 0) d) {M : q_MI} (hM : (q_gM q_D)[c.1]? = some M)
    {l : q_L} {m : q_M} {zs : List Int} (e1 : bg_E (r_F kK 0) zs T.1 m) (e2 : bg_L zs T.2.1 l) (e3 : bi_M kc_I m) : ∃ (n : Nat) (m1 : q_M), q_run q_D n M 0 l [] m = some (some (.int (Int32.ofInt x)), m1) := by
  obtain ⟨n, r, m1, r1, r2, r3, o, o1, o2⟩ := b_chkG_ok (F := r_F kK 0) (r_hk_ok kc_Iok kK1) kc_srt (r_bgF kc_Iok) h hd hM (fun y hy hyl => by
    have := List.all_eq_true.mp hno y hy
    rw [hyl] at this
    simp at this) e1 e2 e3
  rw [ho] at o1
  have e := List.mem_singleton.mp o1
  subst e
  cases r with
  | none => exact o2.elim
  | some y =>
    obtain ⟨z, ⟨w, rfl, w2⟩, z2, z3, -⟩ := o2
    have : Int32.ofInt x = w := by
      rw [show x = w.toInt by omega, Int32.ofInt_toInt]
    rw [this]
    exact ⟨n, m1, r1⟩
/-- an answer, exactly -/
theorem x_ansP {x : Int} {c : b_Con} (ho : c.2.2.1 = [(some (false, x, x), [])]) {inl : List Nat} {deps : List b_Con} {cuts : List (Nat × Nat × List Int)} {hs : List b_H} {p0 : Nat} {T : b_Te} (h : b_chkG r_hk q_D kc_I r_fp 3000 c inl deps cuts hs p0 9999 T = true) (hno : hs.all (fun y => !(Nat.beq y.1 9999)) = true) (hd : ∀ d ∈ deps, bc_ok q_D kc_I (r_F kK 0) d) {M : q_MI} (hM : (q_gM q_D)[c.1]? = some M)
    {l : q_L} {m : q_M} {zs : List Int} (e1 : bg_E (r_F kK 0) zs T.1 m) (e2 : bg_L zs T.2.1 l) (e3 : bi_M kc_I m) : ∃ (n : Nat) (m1 : q_M), q_run q_D n M p0 l [] m = some (some (.int (Int32.ofInt x)), m1) := by
  obtain ⟨n, r, m1, r1, r2, r3, o, o1, o2⟩ := b_chkG_ok (F := r_F kK 0) (r_hk_ok kc_Iok kK1) kc_srt (r_bgF kc_Iok) h hd hM (fun y hy hyl => by
    have := List.all_eq_true.mp hno y hy
    rw [hyl] at this
    simp at this) e1 e2 e3
  rw [ho] at o1
  have e := List.mem_singleton.mp o1
  subst e
  cases r with
  | none => exact o2.elim
  | some y =>
    obtain ⟨z, ⟨w, rfl, w2⟩, z2, z3, -⟩ := o2
    have : Int32.ofInt x = w := by
      rw [show x = w.toInt by omega, Int32.ofInt_toInt]
    rw [this]
    exact ⟨n, m1, r1⟩
theorem x_det {M : q_MI} {l : q_L} {m : q_M} {n1 n2 : Nat} {a b : Option Value × q_M} (h1 : q_run q_D n1 M 0 l [] m = some a) (h2 : q_run q_D n2 M 0 l [] m = some b) : a = b := by
  have e1 := q_fuel n1 (n1 + n2) _ _ _ _ _ _ (by omega) h1
  have e2 := q_fuel n2 (n1 + n2) _ _ _ _ _ _ (by omega) h2
  exact Option.some.inj (e1.symm.trans e2)
/-! what stands at a place -/
def x_at (m : q_M) (c j : Nat) : Prop := ∃ w : Int32, q_at m c j = .int w ∧ q_i m c j = w.toInt
theorem x_fld {m : q_M} {c ci j : Nat} {fs : List b_FI} {lo hi : Int} (hM : bi_M kc_I m) (hI : kc_I[c]? = some (.inr (ci, fs))) (hf : fs[j]? = some (.inl (false, lo, hi))) : x_at m c j ∧ lo ≤ q_i m c j ∧ q_i m c j ≤ hi := by
  obtain ⟨y, hy, vs, rfl, h2⟩ := bi_get hM hI
  obtain ⟨z, hz, w, rfl, w1, w2⟩ := g_2_get h2 hf
  have e : q_at m c j = .int w := by
    rw [q_at_obj hy, List.getD_eq_getElem?_getD, hz]
    rfl
  have e2 : q_i m c j = w.toInt := by
    unfold q_i
    rw [e]
  refine ⟨⟨w, e, e2⟩, ?_, ?_⟩ <;> rw [e2] <;> assumption
theorem x_arr {m : q_M} {c t n j : Nat} {ex : List (Nat × Int × Int)} {lo hi : Int} (hM : bi_M kc_I m) (hI : kc_I[c]? = some (.inl (t, n, .inl (ex, lo, hi)))) (hj : j < n) : x_at m c j ∧ lo ≤ q_i m c j ∧ q_i m c j ≤ hi := by
  obtain ⟨y, hy, f, rfl, h1, -⟩ := bi_get hM hI
  have e : q_at m c j = .int (f j) := q_at_int hy
  have e2 : q_i m c j = (f j).toInt := by
    unfold q_i
    rw [e]
  have := h1 j hj
  refine ⟨⟨f j, e, e2⟩, ?_, ?_⟩ <;> rw [e2]
  · exact this.1
  · exact this.2
theorem x_O {v : List Int} {m : q_M} {c j : Nat} {t : b_T} (h : x_at m c j) (ht : b_is v t (q_i m c j)) : bg_O v m (c, ([], (j : Int)), (false, t)) := by
  obtain ⟨w, h1, h2⟩ := h
  refine ⟨j, b_is_c _, w, h1, ?_⟩
  rw [← h2]
  exact ht
theorem x_O' {v : List Int} {m : q_M} {c j : Nat} {t : b_T} (h : bg_O v m (c, ([], (j : Int)), (false, t))) : ∃ z, b_is v t z ∧ q_i m c j = z := by
  obtain ⟨k, k1, w, w1, w2⟩ := h
  have e : k = j := by
    have h1 : (k : Int) = j := b_is_uniq k1 (b_is_c (j : Int))
    omega
  subst e
  refine ⟨w.toInt, w2, ?_⟩
  unfold q_i
  rw [w1]
theorem x_B {v : List Int} {i : Nat} {lo hi w : Int} {B : a_B} (h : v[i]? = some w) (h1 : lo ≤ w) (h2 : w ≤ hi) (t : g_B v B) : g_B v ((i, lo, hi) :: B) := by
  intro q hq
  rcases List.mem_cons.mp hq with rfl | hq
  · exact ⟨w, h, h1, h2⟩
  · exact t q hq
theorem x_B0 {v : List Int} : g_B v [] := fun q hq => by cases hq
theorem x_C0 {v : List Int} : bg_C v [] := fun q hq => by cases hq
theorem x_C {v : List Int} {t : b_T} {z : Int} {C : List b_T} (h : b_is v t z) (h0 : 0 ≤ z) (r : bg_C v C) : bg_C v (t :: C) := by
  intro q hq
  rcases List.mem_cons.mp hq with rfl | hq
  · exact ⟨z, h, h0⟩
  · exact r q hq
theorem x_M0 {v : List Int} {m : q_M} : ∀ o ∈ ([] : List b_O), bg_O v m o := fun q hq => by cases hq
theorem x_M {v : List Int} {m : q_M} {o : b_O} {l : List b_O} (h : bg_O v m o) (r : ∀ o ∈ l, bg_O v m o) : ∀ q ∈ o :: l, bg_O v m q := by
  intro q hq
  rcases List.mem_cons.mp hq with rfl | hq
  · exact h
  · exact r q hq
theorem x_Q0 {F : Nat → List Int → q_M → Prop} {v : List Int} {m : q_M} : ∀ o ∈ ([] : List b_Q), bg_Q F v m o := fun q hq => by cases hq
theorem x_Q {F : Nat → List Int → q_M → Prop} {v : List Int} {m : q_M} {o : b_Q} {l : List b_Q} (h : bg_Q F v m o) (r : ∀ o ∈ l, bg_Q F v m o) : ∀ q ∈ o :: l, bg_Q F v m q := by
  intro q hq
  rcases List.mem_cons.mp hq with rfl | hq
  · exact h
  · exact r q hq
/-! THE RELATION: images that are kept, rows' lengths and widths -/
def x_R (m : q_M) : Prop := q_i m 0 5 = q_i m 96 0 + 2 * q_i m 96 1 + 4 * q_i m 96 2 ∧ ∀ s, s < 4 → q_i m (85 + 2 * s) 2 = q_i m 114 s ∧ q_i m (85 + 2 * s) 1 = q_i m 115 s
def x_J (m : q_M) : Prop := l_J m ∧ x_R m
/-- the places that it speaks of -/
def x_ps : b_W := [(0, 5, 5), (96, 0, 2), (85, 1, 2), (87, 1, 2), (89, 1, 2), (91, 1, 2), (114, 0, 3), (115, 0, 3)]
def x_off (W : b_W) : Bool := W.all (fun w => b_apart x_ps w.1 w.2.1 w.2.2)
theorem x_off_at {W : b_W} (h : x_off W = true) {m m1 : q_M} (hs : q_same W m m1) {c j : Nat} (hp : b_plW x_ps c j) : q_i m1 c j = q_i m c j := by
  have : ¬ b_plW W c j := by
    rintro ⟨w, hw, rfl, h1, h2⟩
    obtain ⟨u, hu, e, h3, h4⟩ := hp
    have h5 := List.all_eq_true.mp (List.all_eq_true.mp h w hw) u hu
    simp only [Bool.not_eq_true', Bool.and_eq_false_iff, decide_eq_false_iff_not] at h5
    rcases h5 with h5 | h5
    · rw [e, Nat.beq_refl] at h5
      cases h5
    · exact h5 ⟨by omega, by omega⟩
  unfold q_i
  rw [hs c j this]
theorem x_p {c lo hi j : Nat} (h : (c, lo, hi) ∈ x_ps) (h1 : lo ≤ j) (h2 : j ≤ hi) : b_plW x_ps c j := ⟨(c, lo, hi), h, rfl, h1, h2⟩
theorem x_pr {s j : Nat} (hs : s < 4) (h1 : 1 ≤ j) (h2 : j ≤ 2) : b_plW x_ps (85 + 2 * s) j := by
  have : s = 0 ∨ s = 1 ∨ s = 2 ∨ s = 3 := by omega
  rcases this with rfl | rfl | rfl | rfl
  · exact x_p (lo := 1) (hi := 2) (by decide) h1 h2
  · exact x_p (lo := 1) (hi := 2) (by decide) h1 h2
  · exact x_p (lo := 1) (hi := 2) (by decide) h1 h2
  · exact x_p (lo := 1) (hi := 2) (by decide) h1 h2
theorem x_R_off {W : b_W} (h : x_off W = true) {m m1 : q_M} (hs : q_same W m m1) (hr : x_R m) : x_R m1 := by
  have f0 := x_off_at h hs (x_p (c := 0) (lo := 5) (hi := 5) (j := 5) (by decide) (by decide) (by decide))
  have f1 := fun k (hk : k ≤ 2) => x_off_at h hs (x_p (c := 96) (lo := 0) (hi := 2) (j := k) (by decide) (by omega) hk)
  have f2 := fun s (hk : s < 4) => x_off_at h hs (x_p (c := 114) (lo := 0) (hi := 3) (j := s) (by decide) (by omega) (by omega))
  have f3 := fun s (hk : s < 4) => x_off_at h hs (x_p (c := 115) (lo := 0) (hi := 3) (j := s) (by decide) (by omega) (by omega))
  have f4 := fun s (hk : s < 4) => x_off_at h hs (x_pr (j := 1) hk (by decide) (by decide))
  have f5 := fun s (hk : s < 4) => x_off_at h hs (x_pr (j := 2) hk (by decide) (by decide))
  refine ⟨?_, fun s hk => ?_⟩
  · rw [f0, f1 0 (by decide), f1 1 (by decide), f1 2 (by decide)]
    exact hr.1
  · rw [f2 s hk, f3 s hk, f4 s hk, f5 s hk]
    exact hr.2 s hk
theorem x_run2 {P : q_M → Prop} {g : Int} {c : b_Con} (ho : c.2.2.1 = [x_o]) {inl : List Nat} {deps : List b_Con} {cuts : List (Nat × Nat × List Int)} {hs : List b_H} {lp : Nat} {T : b_Te} (h : b_chkG r_hk q_D kc_I r_fp 3000 c inl deps cuts hs 0 lp T = true) (hd : ∀ d ∈ deps, bc_ok q_D kc_I (r_F (x_K P) g) d) {M : q_MI} (hM : (q_gM q_D)[c.1]? = some M)
    (hT : ∀ x ∈ hs, x.1 = lp → ∀ T ∈ x.2.2.2, ∀ l zs m, bg_E (r_F (x_K P) g) zs T.1 m → bg_L zs T.2.1 l → bi_M kc_I m → ∃ (k : Nat) (m1 : q_M), q_run q_D k M lp l [] m = some (some (.int 0), m1) ∧ bi_M kc_I m1 ∧ q_same c.2.2.2.1 m m1 ∧ P m1)
    {l : q_L} {m : q_M} {zs : List Int} (e1 : bg_E (r_F (x_K P) g) zs T.1 m) (e2 : bg_L zs T.2.1 l) (e3 : bi_M kc_I m) : ∃ (n : Nat) (m1 : q_M), q_run q_D n M 0 l [] m = some (some (.int 0), m1) ∧ bi_M kc_I m1 ∧ q_same c.2.2.2.1 m m1 ∧ P m1 := by
  obtain ⟨n, r, m1, r1, r2, r3, r4⟩ := b_chkG_ok (F := r_F (x_K P) g) (r_hk_ok kc_Iok x_K1) kc_srt (r_bgF kc_Iok) h hd hM (fun x hx hxl T hT2 l m ⟨zs, f1, f2, f3⟩ => by
    obtain ⟨k, m1, k1, k2, k3, k4⟩ := hT x hx hxl T hT2 l zs m f1 f2 f3
    refine ⟨k, some (.int 0), m1, by rw [hxl]; exact k1, k2, k3, ?_⟩
    rw [ho]
    exact x_fin k4) e1 e2 e3
  rw [ho] at r4
  obtain ⟨rfl, hP⟩ := x_get r4
  exact ⟨n, m1, r1, r2, r3, hP⟩
/-! the class's image: its last steps by hand -/
theorem m_pure {n : Nat} {M : q_MI} {pc pc1 : Nat} {l l1 : q_L} {st st1 : List Value} {m : q_M} {I : q_I} (hf : q_fd (q_mC M) pc = some I) (hg : q_grp I.2.2.2.1 = 0) (hp : q_pure (q_mL M) pc I.2.2.1 I.2.2.2.1 l st = some (pc1, l1, st1)) : q_run q_D (n + 1) M pc l st m = q_run q_D n M pc1 l1 st1 m := by
  obtain ⟨a, b, c, d, e⟩ := I
  simp only at hg hp
  rw [q_run]
  simp only [hf, hg, hp]
theorem m_mem {n : Nat} {M : q_MI} {pc : Nat} {l : q_L} {st st1 : List Value} {m m1 : q_M} {I : q_I} (hf : q_fd (q_mC M) pc = some I) (hg : q_grp I.2.2.2.1 = 1) (hp : q_mem q_D (q_mF M) (q_mO M) I.2.2.2.1 st m = some (st1, m1)) : q_run q_D (n + 1) M pc l st m = q_run q_D n M (pc + I.2.2.1) l st1 m1 := by
  obtain ⟨a, b, c, d, e⟩ := I
  simp only at hg hp
  rw [q_run]
  simp only [hf, hg, hp]
theorem x_I0 : kc_I[0]? = some (.inr (9, [.inr 1, .inr 3, .inr 4, .inr 16, .inr 28, .inl (false, (-2147483648), 2147483647), .inr 29, .inr 30, .inr 32, .inr 36, .inr 43, .inr 47])) := rfl
theorem x_tail {u : Int32} {m : q_M} (hM : bi_M kc_I m) {l : q_L} (l0 : q_get l 0 = some (.ref 0)) (l1 : q_get l 1 = some (.int u)) {w : Int32} (hw : q_at m 0 5 = .int w) : ∃ (m1 : q_M), q_run q_D 10 q_m207 25 l [] m = some (some (.int 0), m1) ∧ bi_M kc_I m1 ∧ q_same [(0, 5, 5)] m m1 ∧ q_at m1 0 5 = .int (w ||| ((1 : Int32) <<< (u &&& 31))) := by
  obtain ⟨y, hy, vs, rfl, h2⟩ := bi_get hM x_I0
  have hlen : vs.length = 12 := g_2_ln h2
  have hv : vs[5]? = some (.int w) := by
    rw [q_at_obj hy, List.getD_eq_getElem?_getD, List.getElem?_eq_getElem (by omega)] at hw
    rw [List.getElem?_eq_getElem (by omega)]
    exact congrArg some hw
  generalize hx : w ||| ((1 : Int32) <<< (u &&& 31)) = x
  have hm1 : (m.set 0 (.inr (9, vs.set 5 (.int x))))[0]? = some (.inr (9, vs.set 5 (.int x))) := q_get_set hy
  refine ⟨m.set 0 (.inr (9, vs.set 5 (.int x))), ?_, bi_set hM x_I0 ⟨_, rfl, ?_⟩, ?_, ?_⟩
  · rw [m_pure (n := 9) (pc := 25) (pc1 := 26) (l1 := l) (st1 := [.ref 0]) (I := (25, .aload_n 0, 1, .aload 0, 0)) rfl rfl (by simp [q_pure, l0])]
    rw [m_pure (n := 8) (pc := 26) (pc1 := 27) (l1 := l) (st1 := [.ref 0, .ref 0]) (I := (26, .dup, 1, .dup, 0)) rfl rfl rfl]
    rw [m_mem (n := 7) (pc := 27) (st1 := [.int w, .ref 0]) (m1 := m) (I := (27, .getfield 39, 3, .getfield 581, 2074)) rfl rfl (by simp [q_mem, hy, hv])]
    rw [m_pure (n := 6) (pc := 27 + 3) (pc1 := 31) (l1 := l) (st1 := [.int (Int32.ofInt 1), .int w, .ref 0]) (I := (30, .iconst 1, 1, .iconst 1, 0)) rfl rfl rfl]
    rw [m_pure (n := 5) (pc := 31) (pc1 := 32) (l1 := l) (st1 := [.int u, .int (Int32.ofInt 1), .int w, .ref 0]) (I := (31, .iload_n 1, 1, .iload 1, 0)) rfl rfl (by simp [q_pure, l1])]
    rw [m_pure (n := 4) (pc := 32) (pc1 := 33) (l1 := l) (st1 := [.int (Int32.ofInt 1 <<< (u &&& 31)), .int w, .ref 0]) (I := (32, .ishl, 1, .ishl, 0)) rfl rfl rfl]
    rw [m_pure (n := 3) (pc := 33) (pc1 := 34) (l1 := l) (st1 := [.int x, .ref 0]) (I := (33, .ior, 1, .ior, 0)) rfl rfl (by rw [← hx]; rfl)]
    rw [m_mem (n := 2) (pc := 34) (st1 := []) (m1 := m.set 0 (.inr (9, vs.set 5 (.int x)))) (I := (34, .putfield 39, 3, .putfield 581, 2074)) rfl rfl (by
      simp only [q_mem, hy]
      rw [if_pos ⟨trivial, by show 5 < vs.length; omega, rfl, rfl⟩])]
    rfl
  · exact g_2_set h2 (i := 5) (a := .inl (false, -2147483648, 2147483647)) (b := .int x) ⟨x, rfl, by have := Int32.le_toInt x; omega, by have := Int32.toInt_lt x; omega⟩
  · intro c j hc
    refine q_at_setF hy c j (fun q => hc ?_)
    obtain ⟨rfl, rfl⟩ := q
    exact ⟨(0, 5, 5), List.mem_singleton.mpr rfl, rfl, Nat.le_refl _, Nat.le_refl _⟩
  · rw [q_at_obj hm1, List.getD_eq_getElem?_getD, List.getElem?_set_self (by omega)]
    rfl
theorem x_i32 {u : Int32} {k : Int32} (h : u.toInt = k.toInt) : u = k := Int32.toInt_inj.mp h
theorem m_call {n : Nat} {M M1 : q_MI} {pc k : Nat} {l : q_L} {st as rest : List Value} {m m1 : q_M} {r : Option Value} {I : q_I} (hf : q_fd (q_mC M) pc = some I) (hg : q_grp I.2.2.2.1 = 3) (hk : q_cnum I.2.2.2.1 = some k) (hc : q_call q_D M k st m = some (M1, as, rest)) (hr : q_run q_D n M1 0 (lv_args 0 as) [] m = some (r, m1)) : q_run q_D (n + 1) M pc l st m = q_run q_D n M (pc + I.2.2.1) l (r.toList ++ rest) m1 := by
  obtain ⟨a, b, c, d, e⟩ := I
  simp only at hg hk
  rw [q_run]
  simp only [hf, hg, hk, hc, hr]
theorem x_isIn {w u : Int32} {m : q_M} (n : Nat) : q_run q_D (n + 10) q_m62 0 (lv_args 0 [.int w, .int u]) [] m = some (some (.int (if (w >>> (u &&& 31)) &&& Int32.ofInt 1 = Int32.ofInt 1 then Int32.ofInt 1 else Int32.ofInt 0)), m) := by
  have hl : lv_args 0 [Value.int w, .int u] = [(0, .int w), (1, .int u)] := rfl
  rw [hl]
  generalize hll : ([(0, .int w), (1, .int u)] : q_L) = l
  have l0 : q_get l 0 = some (.int w) := by rw [← hll]; rfl
  have l1 : q_get l 1 = some (.int u) := by rw [← hll]; rfl
  rw [m_pure (n := n + 9) (pc := 0) (pc1 := 1) (l1 := l) (st1 := [.int w]) (I := (0, .iload_n 0, 1, .iload 0, 0)) rfl rfl (by simp [q_pure, l0])]
  rw [m_pure (n := n + 8) (pc := 1) (pc1 := 2) (l1 := l) (st1 := [.int u, .int w]) (I := (1, .iload_n 1, 1, .iload 1, 0)) rfl rfl (by simp [q_pure, l1])]
  rw [m_pure (n := n + 7) (pc := 2) (pc1 := 3) (l1 := l) (st1 := [.int (w >>> (u &&& 31))]) (I := (2, .ishr, 1, .ishr, 0)) rfl rfl rfl]
  rw [m_pure (n := n + 6) (pc := 3) (pc1 := 4) (l1 := l) (st1 := [.int (Int32.ofInt 1), .int (w >>> (u &&& 31))]) (I := (3, .iconst 1, 1, .iconst 1, 0)) rfl rfl rfl]
  rw [m_pure (n := n + 5) (pc := 4) (pc1 := 5) (l1 := l) (st1 := [.int ((w >>> (u &&& 31)) &&& Int32.ofInt 1)]) (I := (4, .iand, 1, .iand, 0)) rfl rfl rfl]
  rw [m_pure (n := n + 4) (pc := 5) (pc1 := 6) (l1 := l) (st1 := [.int (Int32.ofInt 1), .int ((w >>> (u &&& 31)) &&& Int32.ofInt 1)]) (I := (5, .iconst 1, 1, .iconst 1, 0)) rfl rfl rfl]
  generalize (w >>> (u &&& 31)) &&& Int32.ofInt 1 = x
  by_cases hx : x = Int32.ofInt 1
  · rw [if_pos hx]
    subst hx
    rw [m_pure (n := n + 3) (pc := 6) (pc1 := 9) (l1 := l) (st1 := []) (I := (6, .if_icmp .ne 7, 3, .if_icmp .ne 7, 0)) rfl rfl (by simp [q_pure, q_br, q_c])]
    rw [m_pure (n := n + 2) (pc := 9) (pc1 := 10) (l1 := l) (st1 := [.int (Int32.ofInt 1)]) (I := (9, .iconst 1, 1, .iconst 1, 0)) rfl rfl rfl]
    rw [m_pure (n := n + 1) (pc := 10) (pc1 := 14) (l1 := l) (st1 := [.int (Int32.ofInt 1)]) (I := (10, .goto 4, 3, .goto 4, 0)) rfl rfl (by simp [q_pure, q_to])]
    rfl
  · rw [if_neg hx]
    rw [m_pure (n := n + 3) (pc := 6) (pc1 := 13) (l1 := l) (st1 := []) (I := (6, .if_icmp .ne 7, 3, .if_icmp .ne 7, 0)) rfl rfl (by simp only [q_pure, q_br, q_c, hx, not_false_eq_true, decide_true]; simp)]
    rw [m_pure (n := n + 2) (pc := 13) (pc1 := 14) (l1 := l) (st1 := [.int (Int32.ofInt 0)]) (I := (13, .iconst 0, 1, .iconst 0, 0)) rfl rfl rfl]
    rfl
/-- the class's back, up to the town's own copying -/
theorem x_back {u w : Int32} {m : q_M} (hM : bi_M kc_I m) (u0 : ¬ u < 0) (u3 : u < Int32.ofInt 3) (hw : q_at m 0 5 = .int w) (n : Nat) : q_run q_D (n + 19) q_m208 0 (lv_args 0 [.ref 0, .int u]) [] m = if (w >>> (u &&& 31)) &&& Int32.ofInt 1 = Int32.ofInt 1 then q_run q_D (n + 9) q_m208 26 (lv_args 0 [.ref 0, .int u]) [] m else some (some (.int (Int32.ofInt (-6))), m) := by
  obtain ⟨y, hy, vs, rfl, h2⟩ := bi_get hM x_I0
  have hlen : vs.length = 12 := g_2_ln h2
  have hv : vs[5]? = some (.int w) := by
    rw [q_at_obj hy, List.getD_eq_getElem?_getD, List.getElem?_eq_getElem (by omega)] at hw
    rw [List.getElem?_eq_getElem (by omega)]
    exact congrArg some hw
  have hl : lv_args 0 [Value.ref 0, .int u] = [(0, .ref 0), (1, .int u)] := rfl
  rw [hl]
  generalize hll : ([(0, .ref 0), (1, .int u)] : q_L) = l
  have l0 : q_get l 0 = some (.ref 0) := by rw [← hll]; rfl
  have l1 : q_get l 1 = some (.int u) := by rw [← hll]; rfl
  rw [m_pure (n := n + 18) (pc := 0) (pc1 := 1) (l1 := l) (st1 := [.int u]) (I := (0, .iload_n 1, 1, .iload 1, 0)) rfl rfl (by simp [q_pure, l1])]
  rw [m_pure (n := n + 17) (pc := 1) (pc1 := 4) (l1 := l) (st1 := []) (I := (1, .ifCond .lt 8, 3, .ifCond .lt 8, 0)) rfl rfl (by simp only [q_pure, q_br, q_c, decide_eq_false u0]; simp)]
  rw [m_pure (n := n + 16) (pc := 4) (pc1 := 5) (l1 := l) (st1 := [.int u]) (I := (4, .iload_n 1, 1, .iload 1, 0)) rfl rfl (by simp [q_pure, l1])]
  rw [m_pure (n := n + 15) (pc := 5) (pc1 := 6) (l1 := l) (st1 := [.int (Int32.ofInt 3), .int u]) (I := (5, .iconst 3, 1, .iconst 3, 0)) rfl rfl rfl]
  rw [m_pure (n := n + 14) (pc := 6) (pc1 := 12) (l1 := l) (st1 := []) (I := (6, .if_icmp .lt 6, 3, .if_icmp .lt 6, 0)) rfl rfl (by simp only [q_pure, q_br, q_c, decide_eq_true u3]; simp)]
  rw [m_pure (n := n + 13) (pc := 12) (pc1 := 13) (l1 := l) (st1 := [.ref 0]) (I := (12, .aload_n 0, 1, .aload 0, 0)) rfl rfl (by simp [q_pure, l0])]
  rw [m_mem (n := n + 12) (pc := 13) (st1 := [.int w]) (m1 := m) (I := (13, .getfield 39, 3, .getfield 581, 2074)) rfl rfl (by simp [q_mem, hy, hv])]
  rw [m_pure (n := n + 11) (pc := 13 + 3) (pc1 := 17) (l1 := l) (st1 := [.int u, .int w]) (I := (16, .iload_n 1, 1, .iload 1, 0)) rfl rfl (by simp [q_pure, l1])]
  rw [m_call (n := n + 10) (pc := 17) (k := 62) (M1 := q_m62) (as := [.int w, .int u]) (rest := []) (I := (17, .invokestatic 241, 3, .invokestatic 62, 4074)) rfl rfl rfl rfl (x_isIn n)]
  by_cases hx : (w >>> (u &&& 31)) &&& Int32.ofInt 1 = Int32.ofInt 1
  · rw [if_pos hx, if_pos hx]
    exact m_pure (n := n + 9) (pc := 17 + 3) (pc1 := 26) (l1 := l) (st1 := []) (I := (20, .ifCond .ne 6, 3, .ifCond .ne 6, 0)) rfl rfl (by simp [q_pure, q_br, q_c])
  · rw [if_neg hx, if_neg hx]
    refine (m_pure (n := n + 9) (pc := 17 + 3) (pc1 := 23) (l1 := l) (st1 := []) (I := (20, .ifCond .ne 6, 3, .ifCond .ne 6, 0)) rfl rfl (by simp [q_pure, q_br, q_c])).trans ?_
    rfl

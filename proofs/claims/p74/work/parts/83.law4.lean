/-! CALLS OF THE LAW OUT OF CONTRACTS -/
def l_ids : List Nat := [0, 2, 3, 4]
/-- what always holds between calls -/
def l_J (m : q_M) : Prop := bi_M kc_I m ∧ ∀ id ∈ l_ids, r_F kK 0 id [] m
def l_tok (c : b_Con) : Bool := c.2.2.2.2.all (fun t => l_ids.contains t.1 && t.2.isEmpty) && l_ids.all (fun id => c.2.2.1.all (fun o => o.2.any (fun t => Nat.beq t.1 id && t.2.isEmpty)) || c.2.2.2.1.all (fun w => b_apart (r_fp id) w.1 w.2.1 w.2.2))
theorem l_apart {id : Nat} {W : b_W} (h : W.all (fun w => b_apart (r_fp id) w.1 w.2.1 w.2.2) = true) {c j : Nat} (hp : b_plW (r_fp id) c j) : ¬ b_plW W c j := by
  rintro ⟨w, hw, rfl, h1, h2⟩
  obtain ⟨u, hu, e, h3, h4⟩ := hp
  have h5 := List.all_eq_true.mp (List.all_eq_true.mp h w hw) u hu
  simp only [Bool.not_eq_true', Bool.and_eq_false_iff, decide_eq_false_iff_not] at h5
  rcases h5 with h5 | h5
  · rw [e, Nat.beq_refl] at h5
    cases h5
  · exact h5 ⟨by omega, by omega⟩
theorem l_run1 {c : b_Con} (hc : bc_ok q_D kc_I (r_F kK 0) c) (ht : l_tok c = true) {M1 : q_MI} (hM : (q_gM q_D)[c.1]? = some M1) {ys : List Value} {zs : List Int} {m : q_M} (ha : bc_args c.2.1 ys zs) (hJ : l_J m) :
    ∃ (n : Nat) (r : Option Value) (m1 : q_M), q_run q_D n M1 0 (lv_args 0 ys) [] m = some (r, m1) ∧ l_J m1 ∧ q_same c.2.2.2.1 m m1 ∧ ∃ o ∈ c.2.2.1, bc_out (r_F kK 0) zs m1 o r := by
  unfold l_tok at ht
  rw [Bool.and_eq_true] at ht
  obtain ⟨ht1, ht2⟩ := ht
  obtain ⟨n, r, m1, h1, h2, h3, o, ho, h4⟩ := hc M1 hM ys zs m ha hJ.1 (fun t h => by
    have h5 := List.all_eq_true.mp ht1 t h
    rw [Bool.and_eq_true] at h5
    have h6 := List.isEmpty_iff.mp h5.2
    refine ⟨[], by rw [h6]; trivial, hJ.2 t.1 (List.contains_iff_mem.mp h5.1)⟩)
  refine ⟨n, r, m1, h1, ⟨h2, fun id hid => ?_⟩, h3, o, ho, h4⟩
  have h5 := List.all_eq_true.mp ht2 id hid
  rw [Bool.or_eq_true] at h5
  rcases h5 with h5 | h5
  · obtain ⟨t, t1, t2⟩ := List.any_eq_true.mp (List.all_eq_true.mp h5 o ho)
    rw [Bool.and_eq_true] at t2
    have e1 := Nat.eq_of_beq_eq_true t2.1
    have e2 := List.isEmpty_iff.mp t2.2
    have hq : ∀ zs1, bg_Q (r_F kK 0) zs1 m1 t → r_F kK 0 id [] m1 := by
      rintro zs1 ⟨u, u1, u2⟩
      rw [e2] at u1
      have := g_na u1
      subst this
      rw [← e1]
      exact u2
    unfold bc_out at h4
    split at h4
    · exact hq _ (h4 t t1)
    · obtain ⟨z, -, -, -, z4⟩ := h4
      exact hq _ (z4 t t1)
    · exact h4.elim
  · exact r_bgF kc_Iok id [] m m1 hJ.1 h2 (fun c1 j hp => h3 c1 j (l_apart h5 hp)) (hJ.2 id hid)
def l_fit : List b_A → List l_V → Bool
  | [], [] => true
  | .inr (.inl k) :: as, v :: vs => decide (v = (0, (k : Int))) && l_fit as vs
  | .inl (false, lo, hi) :: as, v :: vs => l_isI v && decide (lo ≤ -2147483648 ∧ 2147483647 ≤ hi) && l_fit as vs
  | .inl (true, lo, hi) :: as, v :: vs => Nat.beq v.1 5 && decide (lo ≤ -9223372036854775808 ∧ 9223372036854775807 ≤ hi) && l_fit as vs
  | _, _ => false
theorem l_fit_ok {a : Nat} {xs : Nat → Int32} {R : Int → Int32} : ∀ {as : List b_A} {vs : List l_V} {ys : List Value}, l_fit as vs = true → g_2 (l_v a xs R) vs ys → ∃ zs, bc_args as ys zs
  | [], [], ys, _, h => by
    have := g_na h
    subst this
    exact ⟨[], rfl⟩
  | .inr (.inl k) :: as, v :: vs, ys, hf, h => by
    simp only [l_fit, Bool.and_eq_true, decide_eq_true_eq] at hf
    obtain ⟨y, ys1, rfl, hy, hs⟩ := g_ca h
    obtain ⟨zs, hz⟩ := l_fit_ok hf.2 hs
    have hv := hf.1
    subst hv
    have hy : y = .ref k := hy
    exact ⟨zs, hy, hz⟩
  | .inl (false, lo, hi) :: as, v :: vs, ys, hf, h => by
    simp only [l_fit, Bool.and_eq_true, decide_eq_true_eq] at hf
    obtain ⟨y, ys1, rfl, hy, hs⟩ := g_ca h
    obtain ⟨zs, hz⟩ := l_fit_ok hf.2 hs
    obtain ⟨z, rfl⟩ := l_vI hy hf.1.1
    have h1 := Int32.le_toInt z
    have h2 := Int32.toInt_lt z
    exact ⟨z.toInt :: zs, ⟨z, rfl, rfl⟩, by omega, by omega, hz⟩
  | .inl (true, lo, hi) :: as, v :: vs, ys, hf, h => by
    simp only [l_fit, Bool.and_eq_true, decide_eq_true_eq] at hf
    obtain ⟨y, ys1, rfl, hy, hs⟩ := g_ca h
    obtain ⟨zs, hz⟩ := l_fit_ok hf.2 hs
    obtain ⟨z, rfl⟩ := l_vL hy (Nat.eq_of_beq_eq_true hf.1.1)
    have h1 := Int64.le_toInt z
    have h2 := Int64.toInt_lt z
    exact ⟨z.toInt :: zs, ⟨z, rfl, rfl⟩, by omega, by omega, hz⟩
  | [], _ :: _, _, hf, _ => by simp [l_fit] at hf
  | .inr (.inl _) :: _, [], _, hf, _ => by simp [l_fit] at hf
  | .inl (false, _, _) :: _, [], _, hf, _ => by simp [l_fit] at hf
  | .inl (true, _, _) :: _, [], _, hf, _ => by simp [l_fit] at hf
  | .inr (.inr _) :: _, _, _, hf, _ => by simp [l_fit] at hf
/-- the call itself: room, receiver -/
def l_cal (k : Nat) (as : List l_V) : Bool := match (q_gM q_D)[k]? with
  | none => false
  | some M1 => decide (q_na M1 = as.length ∧ q_mF M1 + 1 ≤ 14 ∧ 8 + (q_mL M1 + 11) + q_mO M1 ≤ 520 ∧ l_cts as ≤ q_mL M1 ∧ q_mK M1 = 0) && (match as with
    | v :: _ => Nat.beq v.1 0 && (match kc_I[v.2.toNat]? with | some (.inr (ci, _)) => decide ((q_gC q_D)[ci]?.map (fun z => z.1) = some (q_mY M1).cls) | _ => false)
    | [] => false)
theorem q_cats_rv (as : List Value) : q_cats as.reverse = q_cats as := by
  unfold q_cats
  rw [List.map_reverse]
  exact (List.reverse_perm _).sum_nat
theorem l_cal_ok {a : Nat} {xs : Nat → Int32} {R : Int → Int32} {k : Nat} {as : List l_V} (h : l_cal k as = true) {m : q_M} (hM : bi_M kc_I m) {ys rest : List Value} (hs : g_2 (l_v a xs R) as ys) (hr : q_cats rest ≤ 8) : ∃ M1, (q_gM q_D)[k]? = some M1 ∧ q_call q_D q_mLw k (ys.reverse ++ rest) m = some (M1, ys, rest) := by
  unfold l_cal at h
  split at h
  · cases h
  rename_i M1 hk
  rw [Bool.and_eq_true, decide_eq_true_eq] at h
  obtain ⟨⟨h1, h2, h3, h4, h5⟩, h6⟩ := h
  refine ⟨M1, hk, ?_⟩
  have hln := g_2_len hs
  have hct := l_vcs hs
  have e1 : (ys.reverse ++ rest).take (q_na M1) = ys.reverse := by
    rw [h1, hln, ← List.length_reverse, List.take_left]
  have e2 : (ys.reverse ++ rest).drop (q_na M1) = rest := by
    rw [h1, hln, ← List.length_reverse, List.drop_left]
  unfold q_call
  rw [hk]
  simp only
  rw [e1, e2, List.reverse_reverse]
  rw [if_pos]
  refine ⟨by rw [List.length_append, List.length_reverse]; omega, hr, h2, h3, by rw [q_cats_rv]; omega, ?_⟩
  unfold q_rcv
  rw [h5]
  split at h6
  rotate_left
  · cases h6
  rename_i v vs
  obtain ⟨y, ys1, rfl, hy, -⟩ := g_ca hs
  rw [Bool.and_eq_true] at h6
  obtain ⟨t, d⟩ := v
  have e3 : t = 0 := Nat.eq_of_beq_eq_true h6.1
  subst e3
  have hy : y = .ref d.toNat := hy
  subst hy
  have h6 := h6.2
  simp only at h6
  split at h6
  rotate_left
  · cases h6
  rename_i ci fs hI
  obtain ⟨y, hm, vs, rfl, -⟩ := bi_get hM hI
  simp only [hm]
  exact h6
/-- an int or a long comes back -/
def l_out (c : b_Con) (r : l_V) : Bool := c.2.2.1.all (fun o => match o.1 with
  | some (false, _, _) => Nat.beq r.1 4
  | some (true, _, _) => Nat.beq r.1 5
  | none => false)
def l_stat (c : b_Con) (as : List l_V) (r : l_V) : Bool := l_tok c && (l_fit c.2.1 as && (l_cal c.1 as && l_out c r))
theorem l_out_ok {a : Nat} {xs : Nat → Int32} {R : Int → Int32} {c : b_Con} {r : l_V} (h : l_out c r = true) {zs : List Int} {m : q_M} {o : b_U} (ho : o ∈ c.2.2.1) {y : Option Value} (hy : bc_out (r_F kK 0) zs m o y) : ∃ z, y = some z ∧ l_v a xs R r z := by
  have h1 := List.all_eq_true.mp h o ho
  obtain ⟨ou, ts⟩ := o
  obtain ⟨t, d⟩ := r
  unfold bc_out at hy
  cases ou with
  | none => cases h1
  | some b =>
    obtain ⟨lg, lo, hi⟩ := b
    cases y with
    | none => exact hy.elim
    | some y =>
      obtain ⟨z, z1, -⟩ := hy
      refine ⟨y, rfl, ?_⟩
      cases lg with
      | false =>
        have e : t = 4 := Nat.eq_of_beq_eq_true h1
        subst e
        obtain ⟨w, rfl, -⟩ := z1
        exact ⟨w, rfl⟩
      | true =>
        have e : t = 5 := Nat.eq_of_beq_eq_true h1
        subst e
        obtain ⟨w, rfl, -⟩ := z1
        exact ⟨w, rfl⟩
theorem l_of {a : Nat} {xs : Nat → Int32} {R : Int → Int32} {c : b_Con} (hc : bc_ok q_D kc_I (r_F kK 0) c) (as : List l_V) (r : l_V) (h : l_stat c as r = true) {Inv : Nat → q_M → Prop} {p q : Nat} (h1 : ∀ m, Inv p m → l_J m) (h2 : ∀ m m1, Inv p m → l_J m1 → q_same c.2.2.2.1 m m1 → Inv q m1) : l_ok Inv a xs R (c.1, as, r, (p, q)) := by
  intro m ys rest hp hs hr
  simp only [l_stat, Bool.and_eq_true] at h
  obtain ⟨s1, s2, s3, s4⟩ := h
  obtain ⟨M1, k1, k2⟩ := l_cal_ok s3 (h1 m hp).1 hs hr
  obtain ⟨zs, ha⟩ := l_fit_ok s2 hs
  obtain ⟨n, y, m1, r1, r2, r3, o, o1, o2⟩ := l_run1 hc s1 k1 ha (h1 m hp)
  obtain ⟨z, rfl, hz⟩ := l_out_ok (a := a) (xs := xs) (R := R) s4 o1 o2
  exact ⟨M1, n, z, m1, k2, r1, h2 m m1 hp r2 r3, hz⟩
/-! the size of a memory of the fixed shape -/
def bi_n (x : b_I) : Nat := match x with
  | .inl (_, n, _) => n
  | .inr (_, fs) => fs.length
theorem bi_n_ok : ∀ {I : List b_I} {m : q_M}, bi_M I m → m.length = I.length ∧ q_sl m = (I.map bi_n).sum
  | [], [], _ => ⟨rfl, rfl⟩
  | x :: I, y :: m, h => by
    obtain ⟨h1, h2⟩ := bi_n_ok h.2
    have h3 : q_sz y = bi_n x := by
      have := h.1
      match x, this with
      | .inl (t, n, .inl (ex, lo, hi)), ⟨f, e, _⟩ => subst e; rfl
      | .inl (t, n, .inr (.inl _)), ⟨f, e, _⟩ => subst e; rfl
      | .inl (t, n, .inr (.inr rs)), ⟨f, e, _⟩ => subst e; rfl
      | .inr (ci, fs), ⟨vs, e, hv⟩ =>
        subst e
        exact g_2_ln hv
    refine ⟨by rw [List.length_cons, List.length_cons, h1], ?_⟩
    unfold q_sl at h2 ⊢
    rw [List.map_cons, List.sum_cons, List.map_cons, List.sum_cons, h2, h3]
  | [], _ :: _, h => h.elim
  | _ :: _, [], h => h.elim
theorem l_J_sz {m : q_M} (h : l_J m) : m.length ≤ 600000 ∧ q_sl m ≤ 7302250 := by
  obtain ⟨h1, h2⟩ := bi_n_ok h.1
  rw [h1, h2]
  exact ⟨by decide +kernel, by decide +kernel⟩

/-! THE RULES -/
section GH
variable {g : Int} {K : r_K}
def b_fm (E : b_E) (c : Nat) (t : b_T) : Option b_T := match b_mo E.2.2.2.1 c t with
  | some (false, e) => some e
  | _ => none
def r_sft (t : b_T) (d : Int) : b_T := (t.1, t.2 + d)
def r_has (E : b_E) (id : Nat) : Bool := E.2.2.2.2.any (fun u => Nat.beq u.1 id && u.2.isEmpty)
def r_ge (E : b_E) (a b : b_T) (d : Int) : Bool := b_ent E.2.1 E.2.2.1 (r_sft (b_ad a (-1) b) (-d))
section RULG
variable {v : List Int} {E : b_E} {m : q_M} {I : List b_I}
theorem r_sft_ok {t : b_T} {z d : Int} (h : b_is v t z) : b_is v (r_sft t d) (z + d) := by
  obtain ⟨s, h1, rfl⟩ := h
  exact ⟨s, h1, by show _ = s + (t.2 + d); omega⟩
/-- a - b is at least d -/
theorem r_ge_ok (hE : bg_E (r_F K g) v E m) {a b : b_T} {x y d : Int} (h : r_ge E a b d = true) (ha : b_is v a x) (hb : b_is v b y) : d ≤ x - y := by
  have := b_ent_ok hE.2.1 hE.2.2.1 h (r_sft_ok (b_is_ad (k := -1) ha hb))
  omega
theorem b_fm_ok (hE : bg_E (r_F K g) v E m) {c : Nat} {t e : b_T} {j : Nat} (h : b_fm E c t = some e) (hj : b_is v t (j : Int)) : (∃ z : Int32, q_at m c j = .int z ∧ b_is v e z.toInt) ∧ b_is v e (q_i m c j) := by
  unfold b_fm at h
  split at h
  rotate_left
  · cases h
  rename_i e1 he
  cases h
  obtain ⟨k, k1, k2⟩ := hE.2.2.2.1 _ (b_mo_ok he)
  have : (k : Int) = j := b_is_uniq k1 hj
  have : k = j := by omega
  subst this
  obtain ⟨z, z1, z2⟩ := k2
  simp only at z1 z2
  refine ⟨⟨z, z1, z2⟩, ?_⟩
  unfold q_i
  rw [z1]
  exact z2
theorem r_has_ok (hE : bg_E (r_F K g) v E m) {id : Nat} (h : r_has E id = true) : r_F K g id [] m := by
  obtain ⟨u, hu, h1⟩ := List.any_eq_true.mp h
  rw [Bool.and_eq_true] at h1
  obtain ⟨zs, z1, z2⟩ := hE.2.2.2.2 u hu
  have e : u.2 = [] := List.isEmpty_iff.mp h1.2
  rw [e] at z1
  have := g_na z1
  subst this
  rw [← Nat.eq_of_beq_eq_true h1.1]
  exact z2
theorem r_tok1 (hE : bg_E (r_F K g) v E m) {u : b_Q} (hu : u ∈ E.2.2.2.2) {a : b_T} (h : u.2 = [a]) : ∃ z, b_is v a z ∧ r_F K g u.1 [z] m := by
  obtain ⟨zs, z1, z2⟩ := hE.2.2.2.2 u hu
  rw [h] at z1
  obtain ⟨z, zs, rfl, hz, h1⟩ := g_ca z1
  have := g_na h1
  subst this
  exact ⟨z, hz, z2⟩
theorem r_tok2 (hE : bg_E (r_F K g) v E m) {u : b_Q} (hu : u ∈ E.2.2.2.2) {a b : b_T} (h : u.2 = [a, b]) : ∃ y z, b_is v a y ∧ b_is v b z ∧ r_F K g u.1 [y, z] m := by
  obtain ⟨zs, z1, z2⟩ := hE.2.2.2.2 u hu
  rw [h] at z1
  obtain ⟨y, ys, rfl, hy, h1⟩ := g_ca z1
  obtain ⟨z, zs, rfl, hz, h2⟩ := g_ca h1
  have := g_na h2
  subst this
  exact ⟨y, z, hy, hz, z2⟩
theorem r_tok3 (hE : bg_E (r_F K g) v E m) {u : b_Q} (hu : u ∈ E.2.2.2.2) {a b c : b_T} (h : u.2 = [a, b, c]) : ∃ x y z, b_is v a x ∧ b_is v b y ∧ b_is v c z ∧ r_F K g u.1 [x, y, z] m := by
  obtain ⟨zs, z1, z2⟩ := hE.2.2.2.2 u hu
  rw [h] at z1
  obtain ⟨x, xs, rfl, hx, h0⟩ := g_ca z1
  obtain ⟨y, ys, rfl, hy, h1⟩ := g_ca h0
  obtain ⟨z, zs, rfl, hz, h2⟩ := g_ca h1
  have := g_na h2
  subst this
  exact ⟨x, y, z, hx, hy, hz, z2⟩
end RULG
theorem r_cT_j {id : Nat} {q : (Nat × Nat) × (Nat × Nat)} (h : r_cT id = some q) : r_jT id = none := by
  unfold r_cT at h
  split at h <;> first | rfl | (cases h; done)
/-- copies go on -/
def r_stC (E : b_E) (c : Nat) (x : b_T) (e : b_N) : List b_Q := E.2.2.2.2.filterMap (fun u => match r_cT u.1, u.2 with
  | some (d, s), [t] => if d.1 ≠ s.1 ∧ c = d.1 ∧ e.1 = false ∧ b_eqv E x (r_sft t d.2) = true ∧ E.2.2.2.1.any (fun o => Nat.beq o.1 s.1 && decide (o.2.2 = e) && b_eqv E o.2.1 (r_sft t s.2)) = true then some (u.1, [r_sft t 1]) else none
  | _, _ => none)
def r_dv6 (l : List (Nat × Int)) : Bool := l.all (fun q => decide (q.2 % 6 = 0))
/-- a write off the homes -/
def r_stJ (E : b_E) (c : Nat) (x : b_T) : List b_Q := E.2.2.2.2.filterMap (fun u => match r_jT u.1, u.2 with
  | some (d, b), [] => if c = d ∧ b = 0 ∧ r_dv6 x.1 = true ∧ (x.2 - 7) % 6 ≠ 0 ∧ b_ent E.2.1 E.2.2.1 (r_sft x (-4)) = true then some (u.1, []) else none
  | _, _ => none)
theorem r_dv6_ok {v : List Int} : ∀ {l : List (Nat × Int)} {s : Int}, r_dv6 l = true → b_vs v l = some s → s % 6 = 0
  | [], s, _, h => by
    cases h
    rfl
  | q :: l, s, hd, h => by
    obtain ⟨w, r, h1, h2, rfl⟩ := b_vs_cons.mp h
    unfold r_dv6 at hd
    rw [List.all_cons, Bool.and_eq_true, decide_eq_true_eq] at hd
    have ih := r_dv6_ok (l := l) hd.2 h2
    have : (q.2 * w) % 6 = 0 := by
      rw [Int.mul_emod, hd.1]
      simp
    omega
section RULS
variable {v : List Int} {E : b_E} {m m1 : q_M} {I : List b_I} {c j : Nat} {x : b_T} {e : b_N}
theorem r_stC_ok (hE : bg_E (r_F K g) v E m) (hx : b_is v x (j : Int)) (hm : ∀ d k, ¬ (d = c ∧ k = j) → q_at m1 d k = q_at m d k) (he : bg_n v e (q_at m1 c j)) : ∀ t ∈ r_stC E c x e, bg_Q (r_F K g) v m1 t := by
  intro t ht
  obtain ⟨u, hu, h1⟩ := List.mem_filterMap.mp ht
  split at h1
  rotate_left
  · cases h1
  rename_i d s a hT hu2
  split at h1
  rotate_left
  · cases h1
  rename_i hc
  obtain ⟨hds, rfl, hlg, hxt, hfm⟩ := hc
  cases h1
  obtain ⟨z, z1, z2⟩ := r_tok1 hE hu hu2
  refine ⟨[z + 1], ⟨r_sft_ok z1, trivial⟩, ?_⟩
  have hjT := r_cT_j hT
  unfold r_F at z2 ⊢
  simp only [hjT, hT] at z2 ⊢
  have ej : (j : Int) = z + d.2 := b_eqv_ok hE hxt hx (r_sft_ok z1)
  intro k k1 k2
  rw [hm s.1 (s.2 + k) (fun q => hds q.1.symm)]
  by_cases hk : d.2 + k = j
  · rw [hk]
    have hzk : z = k := by omega
    subst hzk
    obtain ⟨o, ho, h9⟩ := List.any_eq_true.mp hfm
    simp only [Bool.and_eq_true, decide_eq_true_eq] at h9
    obtain ⟨⟨h91, h92⟩, h93⟩ := h9
    obtain ⟨i, i1, i2⟩ := hE.2.2.2.1 o ho
    have ei := b_eqv_ok hE h93 i1 (r_sft_ok z1)
    have ei : i = s.2 + k := by omega
    rw [h92, Nat.eq_of_beq_eq_true h91, ei] at i2
    obtain ⟨lg, e0⟩ := e
    simp only at hlg
    subst hlg
    obtain ⟨w, w1, w2⟩ := i2
    obtain ⟨w', w3, w4⟩ := he
    rw [w3, w1]
    have := b_is_uniq w4 w2
    rw [Int32.toInt_inj.mp this]
  · rw [hm d.1 (d.2 + k) (fun q => hk q.2)]
    exact z2 k (by omega) k2
theorem r_stJ_ok (hE : bg_E (r_F K g) v E m) (hx : b_is v x (j : Int)) (hm : ∀ d k, ¬ (d = c ∧ k = j) → q_at m1 d k = q_at m d k) : ∀ t ∈ r_stJ E c x, bg_Q (r_F K g) v m1 t := by
  intro t ht
  obtain ⟨u, hu, h1⟩ := List.mem_filterMap.mp ht
  split at h1
  rotate_left
  · cases h1
  rename_i d b hT hu2
  split at h1
  rotate_left
  · cases h1
  rename_i hc
  obtain ⟨rfl, rfl, h6, h7, h4⟩ := hc
  cases h1
  obtain ⟨zs, z1, z2⟩ := hE.2.2.2.2 u hu
  rw [hu2] at z1
  have := g_na z1
  subst this
  refine ⟨[], trivial, ?_⟩
  have h4 := b_ent_ok hE.2.1 hE.2.2.1 h4 (r_sft_ok hx)
  have hj6 : ((j : Int) - x.2) % 6 = 0 := by
    obtain ⟨s, s1, s2⟩ := hx
    have := r_dv6_ok h6 s1
    omega
  unfold r_F at z2 ⊢
  simp only [hT] at z2 ⊢
  unfold r_J at z2 ⊢
  have hq : ∀ k, k ≠ j → q_i m1 c k = q_i m c k := fun k hk => q_i_eq (hm c k (fun q => hk q.2))
  rw [hq (0 + 3) (by omega), hq (0 + 2) (by omega)]
  refine r_blk_congr (fun k hk => ?_) z2
  exact (hq (0 + 7 + 6 * k) (by omega)).symm
end RULS
end GH

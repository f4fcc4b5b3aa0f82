/-! THE SEARCH OF ONE GIRL, whoever she is -/
theorem r_finds {K : r_K} {G : q_G} {I : List b_I} {k a : Nat} {W : b_W} (h : ∀ g : Int, bc_ok G I (r_F K g) (k, [.inr (.inl a), .inl (false, 0, 19)], [(some (false, 0, 1), [(87, [])])], W, [(88, []), (89, [([(0, 1)], 0)])])) (g : Int) : bc_ok G I (r_F K g) (k, [.inr (.inl a), .inl (false, 0, 19)], [(some (false, 0, 1), [(80, [([(0, 1)], 1)])])], W, [(80, [([(0, 1)], 0)])]) := by
  intro M hM ys zs m ha hI ht
  obtain ⟨y, x, z, rfl, rfl, h1, h2, h3, h4⟩ : ∃ y x z, ys = [y, x] ∧ zs = [z] ∧ y = .ref a ∧ b_isn false x z ∧ 0 ≤ z ∧ z ≤ 19 := by
    cases ys with
    | nil => exact ha.elim
    | cons y ys =>
      obtain ⟨a1, ha⟩ := ha
      cases ys with
      | nil => exact ha.elim
      | cons x ys =>
        cases zs with
        | nil => exact ha.elim
        | cons z zs =>
          obtain ⟨a2, a3, a4, ha⟩ := ha
          cases ys with
          | cons _ _ => exact ha.elim
          | nil =>
            have ha : zs = [] := ha
            subst ha
            exact ⟨y, x, z, rfl, rfl, a1, a2, a3, a4⟩
  obtain ⟨zs0, q1, q2⟩ := ht _ (List.mem_singleton.mpr rfl)
  obtain ⟨z0, zs1, rfl, hz0, q1⟩ := g_ca q1
  have := g_na q1
  subst this
  have e0 : b_is [z] ([(0, 1)], 0) z := b_is_var rfl
  have ez : z0 = z := b_is_uniq hz0 e0
  subst ez
  obtain ⟨i1, i2⟩ : z_inv (q_i m 108) (q_i m 110) (-1) ∧ ∀ k : Nat, k < 20 → z0 ≤ k → q_i m 110 k = -1 := q2
  obtain ⟨n, r, m1, r1, r2, r3, o, o1, o2⟩ := h z0 M hM [y, x] [z0] m ⟨h1, h2, h3, h4, rfl⟩ hI (by
    intro t ht
    rcases List.mem_cons.mp ht with rfl | ht
    · exact ⟨[], trivial, i1, i2⟩
    · have := List.mem_singleton.mp ht
      subst this
      exact ⟨[z0], ⟨e0, trivial⟩, rfl, h3, by have : z0 ≤ 19 := h4; omega⟩)
  refine ⟨n, r, m1, r1, r2, r3, _, List.mem_singleton.mpr rfl, ?_⟩
  have := List.mem_singleton.mp o1
  subst this
  unfold bc_out at o2 ⊢
  cases r with
  | none => exact o2.elim
  | some y =>
    obtain ⟨w, w1, w2, w3, w4⟩ := o2
    refine ⟨w, w1, w2, w3, ?_⟩
    intro t ht
    have := List.mem_singleton.mp ht
    subst this
    obtain ⟨us, u1, u2⟩ := w4 _ (List.mem_singleton.mpr rfl)
    have := g_na u1
    subst this
    obtain ⟨j1, j2⟩ : z_inv (q_i m1 108) (q_i m1 110) (-1) ∧ ∀ k : Nat, k < 20 → z0 < k → q_i m1 110 k = -1 := u2
    exact ⟨[z0 + 1], ⟨r_sft_ok (d := 1) (b_is_var rfl : b_is [z0, w] ([(0, 1)], 0) z0), trivial⟩, j1, fun k k1 k2 => j2 k k1 (by omega)⟩

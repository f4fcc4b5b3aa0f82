/-! THE SEARCH OF ONE GIRL, whoever she is -/
theorem r_finds {K : r_K} {G : q_G} {I : List b_I} {k a : Nat} {W : b_W} (h : ∀ g : Int, bc_ok G I (r_F K g) (k, [.inr (.inl a), .inl (false, 0, 19)], [(some (false, 0, 1), [(87, [])])], W, [(88, []), (89, [([(0, 1)], 0)])])) (g : Int) : bc_ok G I (r_F K g) (k, [.inr (.inl a), .inl (false, 0, 19)], [(some (false, 0, 1), [(80, [([(0, 1)], 1)])])], W, [(80, [([(0, 1)], 0)])]) := by
  intro M hM ys zs m ha hI ht
  obtain ⟨y, x, z, rfl, rfl, h1, h2, h3, h4⟩ : ∃ y x z, ys = [y, x] ∧ zs = [z] ∧ y = .ref a ∧ b_isn false x z ∧ 0 ≤ z ∧ z ≤ 19 := by
    cases ys with
    | nil => exact ha.elim
    | cons y ys =>
      obtain ⟨a1, ha⟩ := ha
      cases ys with
      | nil => exact ha.elim
      | cons x ys =>
        cases zs with
        | nil => exact ha.elim
        | cons z zs =>
          obtain ⟨a2, a3, a4, ha⟩ := ha
          cases ys with
          | cons _ _ => exact ha.elim
          | nil =>
            have ha : zs = [] := ha
            subst ha
            exact ⟨y, x, z, rfl, rfl, a1, a2, a3, a4⟩
  obtain ⟨zs0, q1, q2⟩ := ht _ (List.mem_singleton.mpr rfl)
  obtain ⟨z0, zs1, rfl, hz0, q1⟩ := g_ca q1
  have := g_na q1
  subst this
  have e0 : b_is [z] ([(0, 1)], 0) z := b_is_var rfl
  have ez : z0 = z := b_is_uniq hz0 e0
  subst ez
  obtain ⟨i1, i2⟩ : z_inv (q_i m 108) (q_i m 110) (-1) ∧ ∀ k : Nat, k < 20 → z0 ≤ k → q_i m 110 k = -1 := q2
  obtain ⟨n, r, m1, r1, r2, r3, o, o1, o2⟩ := h z0 M hM [y, x] [z0] m ⟨h1, h2, h3, h4, rfl⟩ hI (by
    intro t ht
    rcases List.mem_cons.mp ht with rfl | ht
    · exact ⟨[], trivial, i1, i2⟩
    · have := List.mem_singleton.mp ht
      subst this
      exact ⟨[z0], ⟨e0, trivial⟩, rfl, h3, by have : z0 ≤ 19 := h4; omega⟩)
  refine ⟨n, r, m1, r1, r2, r3, _, List.mem_singleton.mpr rfl, ?_⟩
  have := List.mem_singleton.mp o1
  subst this
  unfold bc_out at o2 ⊢
  cases r with
  | none => exact o2.elim
  | some y =>
    obtain ⟨w, w1, w2, w3, w4⟩ := o2
    refine ⟨w, w1, w2, w3, ?_⟩
    intro t ht
    have := List.mem_singleton.mp ht
    subst this
    obtain ⟨us, u1, u2⟩ := w4 _ (List.mem_singleton.mpr rfl)
    have := g_na u1
    subst this
    obtain ⟨j1, j2⟩ : z_inv (q_i m1 108) (q_i m1 110) (-1) ∧ ∀ k : Nat, k < 20 → z0 < k → q_i m1 110 k = -1 := u2
    exact ⟨[z0 + 1], ⟨r_sft_ok (d := 1) (b_is_var rfl : b_is [z0, w] ([(0, 1)], 0) z0), trivial⟩, j1, fun k k1 k2 => j2 k k1 (by omega)⟩
/-! WHETHER A SET MAY BE OF ONE HOUSE, whatever the set -/
theorem r_u1 {z u : Int} {us : List Int} {w : List Int} (h : g_2 (b_is (z :: w)) [([(0, 1)], 0)] us) : us = [z] := by
  obtain ⟨u, us, rfl, hu, u1⟩ := g_ca h
  have := g_na u1
  subst this
  rw [b_is_uniq hu (b_is_var rfl : b_is (z :: w) ([(0, 1)], 0) z)]
theorem r_u2 {z z1 : Int} {us : List Int} {w : List Int} (h : g_2 (b_is (z :: z1 :: w)) [([(0, 1)], 0), ([(1, 1)], 0)] us) : us = [z, z1] := by
  obtain ⟨u, us, rfl, hu, u1⟩ := g_ca h
  obtain ⟨u', us, rfl, hu', u1⟩ := g_ca u1
  have := g_na u1
  subst this
  rw [b_is_uniq hu (b_is_var rfl : b_is (z :: z1 :: w) ([(0, 1)], 0) z), b_is_uniq hu' (b_is_var rfl : b_is (z :: z1 :: w) ([(1, 1)], 0) z1)]
theorem r_may {K : r_K} {G : q_G} {I : List b_I} {k a : Nat} {W : b_W} (h : ∀ g : Int, bc_ok G I (r_F K g) (k, [.inr (.inl a), .inl (false, 1, 1023)], [(some (false, 0, 1), [(137, [([(1, 1)], 0)])])], W, [(904, [([(0, 1)], 0)]), (136, [([(0, 1)], 0)]), (140, []), (144, [])])) (g : Int) : bc_ok G I (r_F K g) (k, [.inr (.inl a), .inl (false, 1, 1023)], [(some (false, 0, 1), [(138, [([(0, 1)], 0), ([(1, 1)], 0)])])], W, [(904, [([(0, 1)], 0)]), (140, []), (144, [])]) := by
  intro M hM ys zs m ha hI ht
  obtain ⟨y, x, z, rfl, rfl, h1, h2, h3, h4⟩ : ∃ y x z, ys = [y, x] ∧ zs = [z] ∧ y = .ref a ∧ b_isn false x z ∧ 1 ≤ z ∧ z ≤ 1023 := by
    cases ys with
    | nil => exact ha.elim
    | cons y ys =>
      obtain ⟨a1, ha⟩ := ha
      cases ys with
      | nil => exact ha.elim
      | cons x ys =>
        cases zs with
        | nil => exact ha.elim
        | cons z zs =>
          obtain ⟨a2, a3, a4, ha⟩ := ha
          cases ys with
          | cons _ _ => exact ha.elim
          | nil =>
            have ha : zs = [] := ha
            subst ha
            exact ⟨y, x, z, rfl, rfl, a1, a2, a3, a4⟩
  have e0 : b_is [z] ([(0, 1)], 0) z := b_is_var rfl
  obtain ⟨n, r, m1, r1, r2, r3, o, o1, o2⟩ := h z M hM [y, x] [z] m ⟨h1, h2, h3, h4, rfl⟩ hI (by
    intro t hu
    simp only [List.mem_cons, List.not_mem_nil, or_false] at hu
    rcases hu with rfl | rfl | rfl | rfl
    · obtain ⟨us, u1, u2⟩ := ht _ (List.mem_cons_self ..)
      have := r_u1 (u := 0) u1
      subst this
      exact ⟨[z], u1, u2⟩
    · exact ⟨[z], ⟨e0, trivial⟩, rfl⟩
    · obtain ⟨us, u1, u2⟩ := ht (140, []) (by simp)
      have := g_na u1
      subst this
      exact ⟨[], u1, u2⟩
    · obtain ⟨us, u1, u2⟩ := ht (144, []) (by simp)
      have := g_na u1
      subst this
      exact ⟨[], u1, u2⟩)
  refine ⟨n, r, m1, r1, r2, r3, _, List.mem_singleton.mpr rfl, ?_⟩
  have := List.mem_singleton.mp o1
  subst this
  unfold bc_out at o2 ⊢
  cases r with
  | none => exact o2.elim
  | some y =>
    obtain ⟨w, w1, w2, w3, w4⟩ := o2
    refine ⟨w, w1, w2, w3, ?_⟩
    intro t ht
    have := List.mem_singleton.mp ht
    subst this
    obtain ⟨us, u1, u2⟩ := w4 _ (List.mem_singleton.mpr rfl)
    obtain ⟨u, us, rfl, hu, u1⟩ := g_ca u1
    have := g_na u1
    subst this
    have ew : u = w := b_is_uniq hu (b_is_var rfl : b_is [z, w] ([(1, 1)], 0) w)
    subst ew
    exact ⟨[z, u], ⟨(b_is_var rfl : b_is [z, u] ([(0, 1)], 0) z), hu, trivial⟩, u2⟩
/-! ONE SET MORE, whatever the two -/
theorem r_adds {K : r_K} {G : q_G} {I : List b_I} {k a : Nat} {lo hi : Int} {W : b_W} (h : ∀ g : Int, bc_ok G I (r_F K g) (k, [.inr (.inl a), .inl (false, 1, 1023), .inl (false, 1, 1023), .inl (false, lo, hi)], [(none, [(161, [])])], W, [(152, [([(0, 1)], 0), ([(1, 1)], 0)]), (160, [([(0, 1)], 0), ([(1, 1)], 0)]), (158, [([(0, 1)], 0), ([(1, 1)], 0)])])) (g : Int) : bc_ok G I (r_F K g) (k, [.inr (.inl a), .inl (false, 1, 1023), .inl (false, 1, 1023), .inl (false, lo, hi)], [(none, [(153, [([(0, 1)], 0), ([(1, 1)], 0)])])], W, [(152, [([(0, 1)], 0), ([(1, 1)], 0)]), (160, [([(0, 1)], 0), ([(1, 1)], 0)])]) := by
  intro M hM ys zs m ha hI ht
  obtain ⟨s, q, w, rfl, s1, s2, q1, q2⟩ : ∃ s q w, zs = [s, q, w] ∧ 1 ≤ s ∧ s ≤ 1023 ∧ 1 ≤ q ∧ q ≤ 1023 := by
    cases ys with
    | nil => exact ha.elim
    | cons y ys =>
      obtain ⟨a1, ha⟩ := ha
      cases ys with
      | nil => exact ha.elim
      | cons x ys =>
        cases zs with
        | nil => exact ha.elim
        | cons z zs =>
          obtain ⟨a2, a3, a4, ha⟩ := ha
          cases ys with
          | nil => exact ha.elim
          | cons x1 ys =>
            cases zs with
            | nil => exact ha.elim
            | cons z1 zs =>
              obtain ⟨b2, b3, b4, ha⟩ := ha
              cases ys with
              | nil => exact ha.elim
              | cons x2 ys =>
                cases zs with
                | nil => exact ha.elim
                | cons z2 zs =>
                  obtain ⟨c2, c3, c4, ha⟩ := ha
                  cases ys with
                  | cons _ _ => exact ha.elim
                  | nil =>
                    have ha : zs = [] := ha
                    subst ha
                    exact ⟨z, z1, z2, rfl, a3, a4, b3, b4⟩
  have e2 : g_2 (b_is [s, q, w]) [([(0, 1)], 0), ([(1, 1)], 0)] [s, q] := ⟨b_is_var rfl, b_is_var rfl, trivial⟩
  obtain ⟨n, r, m1, r1, r2, r3, o, o1, o2⟩ := h (1024 * s + q) M hM ys [s, q, w] m ha hI (by
    intro t hu
    simp only [List.mem_cons, List.not_mem_nil, or_false] at hu
    rcases hu with rfl | rfl | rfl
    · obtain ⟨us, u1, u2⟩ := ht _ (List.mem_cons_self ..)
      have := r_u2 u1
      subst this
      exact ⟨[s, q], u1, u2⟩
    · obtain ⟨us, u1, u2⟩ := ht (160, [([(0, 1)], 0), ([(1, 1)], 0)]) (by simp)
      have := r_u2 u1
      subst this
      exact ⟨[s, q], u1, u2⟩
    · exact ⟨[s, q], e2, s.toNat, q.toNat, by omega, by omega, by omega, by omega⟩)
  refine ⟨n, r, m1, r1, r2, r3, _, List.mem_singleton.mpr rfl, ?_⟩
  have := List.mem_singleton.mp o1
  subst this
  unfold bc_out at o2 ⊢
  cases r with
  | some y => exact o2.elim
  | none =>
    intro t ht
    have := List.mem_singleton.mp ht
    subst this
    obtain ⟨us, u1, u2⟩ := o2 _ (List.mem_singleton.mpr rfl)
    have := g_na u1
    subst this
    obtain ⟨x, p, x1, x2, x3, x4⟩ : ∃ n q' : Nat, 1024 * s + q = 1024 * n + q' ∧ q' < 1024 ∧ n < 1024 ∧ 1 ≤ q' ∧ j_ck n 1024 q' = true ∧ j_at (q_w m1 104 11264) n (j_rem n 1024 (j_nx n q')) (j_nx n q' < 2 ^ j_fst n) := u2
    exact ⟨[s, q], e2, x, p, by omega, by omega, x3, x4⟩

/-! ONE LOOP HEAD (lp) TAKEN ON TRUST: what it promises is shown by hand -/
noncomputable def b_hsL (hk : b_Hk) (G : q_G) (I : List b_I) (fp : Nat → b_W) (n : Nat) (M : q_MI) (inl : List Nat) (deps : List b_Con) (cuts : List (Nat × Nat × List Int)) (W : b_W) (os : Nat × List b_U) (hs : List b_H) (lp : Nat) : Bool := hs.all (fun h => Nat.beq h.1 lp || (match a_at M (q_mC M) h.1 with
      | some cd => h.2.2.2.all (fun T => b_ent T.1.2.1 T.1.2.2.1 T.2.2 && b_from hk G I fp (inl, deps, cuts, W, os, hs, some T.2.2) n (T.1, [(M, cd, T.2.1, [])]))
      | none => false))
noncomputable def b_chkL (hk : b_Hk) (G : q_G) (I : List b_I) (fp : Nat → b_W) (n : Nat) (c : b_Con) (inl : List Nat) (deps : List b_Con) (cuts : List (Nat × Nat × List Int)) (hs : List b_H) (lp : Nat) : Bool := match (q_gM G)[c.1]? with
  | none => false
  | some M => (match a_at M (q_mC M) 0 with
    | some cd => b_from hk G I fp (inl, deps, cuts, c.2.2.2.1, ((b_eA c.2.1 0).2.2, c.2.2.1), hs, none) n (((b_eA c.2.1 0).2.2, (b_eA c.2.1 0).1, [], [], c.2.2.2.2), [(M, cd, b_lvs 0 (b_eA c.2.1 0).2.1, [])])
    | none => false)
    && b_hsL hk G I fp n M inl deps cuts c.2.2.2.1 ((b_eA c.2.1 0).2.2, c.2.2.1) hs lp
/-- from a template at lp -/
noncomputable def b_chkF (hk : b_Hk) (G : q_G) (I : List b_I) (fp : Nat → b_W) (n : Nat) (c : b_Con) (inl : List Nat) (deps : List b_Con) (cuts : List (Nat × Nat × List Int)) (hs : List b_H) (lp : Nat) (T : b_Te) : Bool := match (q_gM G)[c.1]? with
  | none => false
  | some M => (match a_at M (q_mC M) lp with
    | some cd => b_from hk G I fp (inl, deps, cuts, c.2.2.2.1, ((b_eA c.2.1 0).2.2, c.2.2.1), hs, none) n (T.1, [(M, cd, T.2.1, [])])
    | none => false)
    && b_hsL hk G I fp n M inl deps cuts c.2.2.2.1 ((b_eA c.2.1 0).2.2, c.2.2.1) hs lp
section LOOP
variable {F : Nat → List Int → q_M → Prop} {fp : Nat → b_W} {I : List b_I} {G : q_G}
theorem b_hdL {hk : b_Hk} (hH : bg_Hk I F hk) (hsG : ∀ M ∈ q_gM G, q_srt (q_mC M) = true) (hF : bg_F I fp F) {n : Nat} {inl : List Nat} {deps : List b_Con} {cuts : List (Nat × Nat × List Int)} {W : b_W} {os : Nat × List b_U} {hs : List b_H} {lp : Nat} {M : q_MI} (hsrt : q_srt (q_mC M) = true) (hd : ∀ d ∈ deps, bc_ok G I F d)
    (hh : b_hsL hk G I fp n M inl deps cuts W os hs lp = true)
    (ht : ∀ x ∈ hs, x.1 = lp → ∀ T ∈ x.2.2.2, ∀ l m, (∃ zs, bg_E F zs T.1 m ∧ bg_L zs T.2.1 l ∧ bi_M I m) → ∃ (k : Nat) (r : Option Value) (m1 : q_M), q_run G k M x.1 l [] m = some (r, m1) ∧ bc_P F I (inl, deps, cuts, W, os, hs, none) m r m1) :
    bc_hd G F I (inl, deps, cuts, W, os, hs, none) M none := by
  unfold b_hsL at hh
  have claim : ∀ (N : Nat), ∀ x ∈ hs, ∀ T ∈ x.2.2.2, ∀ (z : Int), z ≤ N → ∀ l m, (∃ zs, bg_E F zs T.1 m ∧ bg_L zs T.2.1 l ∧ bi_M I m ∧ b_is zs T.2.2 z) → ∃ (k : Nat) (r : Option Value) (m1 : q_M), q_run G k M x.1 l [] m = some (r, m1) ∧ bc_P F I (inl, deps, cuts, W, os, hs, none) m r m1 := by
    intro N
    induction N with
    | zero =>
      intro x hx T hT z hz l m hst
      have h1 := List.all_eq_true.mp hh x hx
      by_cases hlp : x.1 = lp
      · obtain ⟨zs, e1, e2, e3, e4⟩ := hst
        exact ht x hx hlp T hT l m ⟨zs, e1, e2, e3⟩
      rw [Bool.or_eq_true] at h1
      rcases h1 with h1 | h1
      · exact absurd (Nat.eq_of_beq_eq_true h1) hlp
      split at h1
      rotate_left
      · cases h1
      rename_i cd hcd
      have h2 := List.all_eq_true.mp h1 T hT
      rw [Bool.and_eq_true] at h2
      obtain ⟨zs, e1, e2, e3, e4⟩ := hst
      obtain ⟨J, jl, d1, d2, d3⟩ := a_at_ok hcd (List.suffix_refl _)
      have hhd : bc_hd G F I (inl, deps, cuts, W, os, hs, some T.2.2) M (some z) := by
        intro y hy T' hT' l' m' ⟨zs', f1, f2, f3, f4⟩
        by_cases hlp' : y.1 = lp
        · exact ht y hy hlp' T' hT' l' m' ⟨zs', f1, f2, f3⟩
        obtain ⟨b, f5, f6⟩ := f4 z rfl
        have h3 := List.all_eq_true.mp hh y hy
        rw [Bool.or_eq_true] at h3
        rcases h3 with h3 | h3
        · exact absurd (Nat.eq_of_beq_eq_true h3) hlp'
        split at h3
        rotate_left
        · cases h3
        have h4 := List.all_eq_true.mp h3 T' hT'
        rw [Bool.and_eq_true] at h4
        have := b_ent_ok f1.2.1 f1.2.2.1 h4.1 f5
        omega
      have K := b_from_ok hH hsG hF (Z := (inl, deps, cuts, W, os, hs, some T.2.2)) hd hhd h2.2 (m0 := m) (v := zs) (ps := [(M, x.1, l, [])]) (m := m) ⟨e1, ⟨⟨rfl, hsrt, ⟨J, jl, d1, d2, d3⟩, e2, trivial⟩, trivial⟩, e3, q_same.rf, fun f hf => by cases hf; rfl, e4⟩
      obtain ⟨k, r, m1, r1, r2⟩ := K
      exact ⟨k, r, m1, r1, r2⟩
    | succ N ih =>
      intro x hx T hT z hz l m hst
      have h1 := List.all_eq_true.mp hh x hx
      by_cases hlp : x.1 = lp
      · obtain ⟨zs, e1, e2, e3, e4⟩ := hst
        exact ht x hx hlp T hT l m ⟨zs, e1, e2, e3⟩
      rw [Bool.or_eq_true] at h1
      rcases h1 with h1 | h1
      · exact absurd (Nat.eq_of_beq_eq_true h1) hlp
      split at h1
      rotate_left
      · cases h1
      rename_i cd hcd
      have h2 := List.all_eq_true.mp h1 T hT
      rw [Bool.and_eq_true] at h2
      obtain ⟨zs, e1, e2, e3, e4⟩ := hst
      obtain ⟨J, jl, d1, d2, d3⟩ := a_at_ok hcd (List.suffix_refl _)
      have hhd : bc_hd G F I (inl, deps, cuts, W, os, hs, some T.2.2) M (some z) := by
        intro y hy T' hT' l' m' ⟨zs', f1, f2, f3, f4⟩
        obtain ⟨b, f5, f6⟩ := f4 z rfl
        exact ih y hy T' hT' b (by omega) l' m' ⟨zs', f1, f2, f3, f5⟩
      have K := b_from_ok hH hsG hF (Z := (inl, deps, cuts, W, os, hs, some T.2.2)) hd hhd h2.2 (m0 := m) (v := zs) (ps := [(M, x.1, l, [])]) (m := m) ⟨e1, ⟨⟨rfl, hsrt, ⟨J, jl, d1, d2, d3⟩, e2, trivial⟩, trivial⟩, e3, q_same.rf, fun f hf => by cases hf; rfl, e4⟩
      obtain ⟨k, r, m1, r1, r2⟩ := K
      exact ⟨k, r, m1, r1, r2⟩
  intro y hy T' hT' l' m' ⟨zs', f1, f2, f3, _⟩
  by_cases hlp' : y.1 = lp
  · exact ht y hy hlp' T' hT' l' m' ⟨zs', f1, f2, f3⟩
  have h3 := List.all_eq_true.mp hh y hy
  rw [Bool.or_eq_true] at h3
  rcases h3 with h3 | h3
  · exact absurd (Nat.eq_of_beq_eq_true h3) hlp'
  split at h3
  rotate_left
  · cases h3
  have h4 := List.all_eq_true.mp h3 T' hT'
  rw [Bool.and_eq_true] at h4
  have hex : ∃ z, b_is zs' T'.2.2 z := by
    have h5 := h4.1
    unfold b_ent at h5
    split at h5
    · rename_i p hp
      exact b_iv_ex f1.2.1 (by rw [hp]; rfl)
    · cases h5
  obtain ⟨z, hz⟩ := hex
  exact claim z.toNat y hy T' hT' z (by omega) l' m' ⟨zs', f1, f2, f3, hz⟩
theorem b_chkF_ok {hk : b_Hk} (hH : bg_Hk I F hk) (hsG : ∀ M ∈ q_gM G, q_srt (q_mC M) = true) (hF : bg_F I fp F) {n : Nat} {c : b_Con} {inl : List Nat} {deps : List b_Con} {cuts : List (Nat × Nat × List Int)} {hs : List b_H} {lp : Nat} {T : b_Te} (h : b_chkF hk G I fp n c inl deps cuts hs lp T = true) (hd : ∀ d ∈ deps, bc_ok G I F d) {M : q_MI} (hM : (q_gM G)[c.1]? = some M)
    (ht : ∀ x ∈ hs, x.1 = lp → ∀ T ∈ x.2.2.2, ∀ l m, (∃ zs, bg_E F zs T.1 m ∧ bg_L zs T.2.1 l ∧ bi_M I m) → ∃ (k : Nat) (r : Option Value) (m1 : q_M), q_run G k M x.1 l [] m = some (r, m1) ∧ bi_M I m1 ∧ q_same c.2.2.2.1 m m1 ∧ bc_fin F m1 ((b_eA c.2.1 0).2.2, c.2.2.1) r)
    {l : q_L} {m : q_M} {zs : List Int} (e1 : bg_E F zs T.1 m) (e2 : bg_L zs T.2.1 l) (e3 : bi_M I m) : ∃ (k : Nat) (r : Option Value) (m1 : q_M), q_run G k M lp l [] m = some (r, m1) ∧ bi_M I m1 ∧ q_same c.2.2.2.1 m m1 ∧ bc_fin F m1 ((b_eA c.2.1 0).2.2, c.2.2.1) r := by
  unfold b_chkF at h
  rw [hM] at h
  simp only [Bool.and_eq_true] at h
  obtain ⟨h0, hh⟩ := h
  have hsrt := hsG M (List.mem_of_getElem? hM)
  have hhd := b_hdL hH hsG hF hsrt hd hh ht
  split at h0
  rotate_left
  · cases h0
  rename_i cd hcd
  obtain ⟨J, jl, d1, d2, d3⟩ := a_at_ok hcd (List.suffix_refl _)
  have K := b_from_ok hH hsG hF (Z := (inl, deps, cuts, c.2.2.2.1, ((b_eA c.2.1 0).2.2, c.2.2.1), hs, none)) hd hhd h0 (m0 := m) (v := zs) (ps := [(M, lp, l, [])]) (m := m) ⟨e1, ⟨⟨rfl, hsrt, ⟨J, jl, d1, d2, d3⟩, e2, trivial⟩, trivial⟩, e3, q_same.rf, fun f hf => by cases hf; rfl, trivial⟩
  obtain ⟨k, r, m1, r1, r2⟩ := K
  exact ⟨k, r, m1, r1, r2⟩
/-- what a method comes to, said of its arguments -/
theorem bc_close {c : b_Con} {ys : List Value} {zs : List Int} (ha : bc_args c.2.1 ys zs) {r : Option Value} {m1 : q_M} (h : bc_fin F m1 ((b_eA c.2.1 0).2.2, c.2.2.1) r) : ∃ o ∈ c.2.2.1, bc_out F zs m1 o r := by
  obtain ⟨o, o1, o2⟩ := h
  obtain ⟨a1, a2, a3⟩ := b_eA_ok [] ha
  simp only [List.nil_append, List.length_nil] at a1 a2 a3
  refine ⟨o, o1, ?_⟩
  have close : ∀ (w : List Int) (z : Option Int) (ts : List b_Q), (∀ x, z = some x → w[(b_eA c.2.1 0).2.2]? = some x) → (∀ t ∈ ts, bc_tk F m1 (b_eA c.2.1 0).2.2 z t) → ∀ t ∈ ts, bg_Q F w m1 t := by
    intro w z ts hw h t ht
    obtain ⟨ys, y1, y2⟩ := h t ht
    refine ⟨ys, ?_, y1⟩
    refine g_2_mono (fun a y hy => ?_) y2
    rcases hy with ⟨e1, e2⟩ | ⟨x, e1, e2, e3⟩
    · exact ⟨0, by rw [e1]; rfl, by omega⟩
    · have := hw x e1
      exact ⟨1 * x + 0, by rw [e2]; exact b_vs_cons.mpr ⟨x, 0, this, rfl, rfl⟩, by omega⟩
  obtain ⟨ou, ots⟩ := o
  unfold bc_out
  simp only at o2 ⊢
  cases ou with
  | none =>
    cases r with
    | none => exact close zs none _ (fun x hx => by cases hx) o2
    | some y => exact o2.elim
  | some b =>
    obtain ⟨lg, lo, hi⟩ := b
    cases r with
    | none => exact o2.elim
    | some y =>
      obtain ⟨z, z1, z2, z3, z4⟩ := o2
      exact ⟨z, z1, z2, z3, close (zs ++ [z]) (some z) _ (fun x hx => by cases hx; rw [a1]; simp) z4⟩
theorem b_chkL_ok {hk : b_Hk} (hH : bg_Hk I F hk) (hsG : ∀ M ∈ q_gM G, q_srt (q_mC M) = true) (hF : bg_F I fp F) {n : Nat} {c : b_Con} {inl : List Nat} {deps : List b_Con} {cuts : List (Nat × Nat × List Int)} {hs : List b_H} {lp : Nat} (h : b_chkL hk G I fp n c inl deps cuts hs lp = true) (hd : ∀ d ∈ deps, bc_ok G I F d)
    (ht : ∀ M, (q_gM G)[c.1]? = some M → ∀ x ∈ hs, x.1 = lp → ∀ T ∈ x.2.2.2, ∀ l m, (∃ zs, bg_E F zs T.1 m ∧ bg_L zs T.2.1 l ∧ bi_M I m) → ∃ (k : Nat) (r : Option Value) (m1 : q_M), q_run G k M x.1 l [] m = some (r, m1) ∧ bi_M I m1 ∧ q_same c.2.2.2.1 m m1 ∧ bc_fin F m1 ((b_eA c.2.1 0).2.2, c.2.2.1) r) : bc_ok G I F c := by
  intro M hM ys zs m ha hI hq
  unfold b_chkL at h
  rw [hM] at h
  simp only [Bool.and_eq_true] at h
  obtain ⟨h0, hh⟩ := h
  have hsrt := hsG M (List.mem_of_getElem? hM)
  have hhd := b_hdL hH hsG hF hsrt hd hh (ht M hM)
  split at h0
  rotate_left
  · cases h0
  rename_i cd hcd
  obtain ⟨J, jl, d1, d2, d3⟩ := a_at_ok hcd (List.suffix_refl _)
  obtain ⟨a1, a2, a3⟩ := b_eA_ok [] ha
  simp only [List.nil_append, List.length_nil] at a1 a2 a3
  have K := b_from_ok hH hsG hF (Z := (inl, deps, cuts, c.2.2.2.1, ((b_eA c.2.1 0).2.2, c.2.2.1), hs, none)) hd hhd h0 (m0 := m) (v := zs) (ps := [(M, 0, lv_args 0 ys, [])]) (m := m) ⟨⟨a1.symm, a2, fun x hx => by (cases hx), fun o ho => by (cases ho), hq⟩, ⟨⟨rfl, hsrt, ⟨J, jl, d1, d2, d3⟩, b_lvs_ok 0 a3, trivial⟩, trivial⟩, hI, q_same.rf, fun f hf => by cases hf; rfl, trivial⟩
  obtain ⟨k, r, m1, r1, r2, r3, o⟩ := K
  exact ⟨k, r, m1, r1, r2, r3, bc_close ha o⟩
end LOOP
/-! HOW MANY ARE OF A HOUSE, whatever the house -/
theorem r_fresh {K : r_K} {G : q_G} {I : List b_I} {k a : Nat} {hi ru : Int} {W : b_W} (h : ∀ g : Int, bc_ok G I (r_F K g) (k, [.inr (.inl a), .inl (false, 0, hi)], [(some (false, 0, ru), [(42, [([(1, 1)], 0)])])], W, [(43, [([(0, 1)], 0)])])) (g : Int) : bc_ok G I (r_F K g) (k, [.inr (.inl a), .inl (false, 0, hi)], [(some (false, 0, ru), [(44, [([(0, 1)], 0), ([(1, 1)], 0)])])], W, []) := by
  intro M hM ys zs m ha hI ht
  obtain ⟨y, x, z, rfl, rfl, h1, h2, h3, h4⟩ : ∃ y x z, ys = [y, x] ∧ zs = [z] ∧ y = .ref a ∧ b_isn false x z ∧ 0 ≤ z ∧ z ≤ hi := by
    cases ys with
    | nil => exact ha.elim
    | cons y ys =>
      obtain ⟨a1, ha⟩ := ha
      cases ys with
      | nil => exact ha.elim
      | cons x ys =>
        cases zs with
        | nil => exact ha.elim
        | cons z zs =>
          obtain ⟨a2, a3, a4, ha⟩ := ha
          cases ys with
          | cons _ _ => exact ha.elim
          | nil =>
            have ha : zs = [] := ha
            subst ha
            exact ⟨y, x, z, rfl, rfl, a1, a2, a3, a4⟩
  have e0 : b_is [z] ([(0, 1)], 0) z := b_is_var rfl
  obtain ⟨n, r, m1, r1, r2, r3, o, o1, o2⟩ := h z M hM [y, x] [z] m ⟨h1, h2, h3, h4, rfl⟩ hI (by
    intro t ht
    have := List.mem_singleton.mp ht
    subst this
    exact ⟨[z], ⟨e0, trivial⟩, rfl⟩)
  refine ⟨n, r, m1, r1, r2, r3, _, List.mem_singleton.mpr rfl, ?_⟩
  have := List.mem_singleton.mp o1
  subst this
  unfold bc_out at o2 ⊢
  cases r with
  | none => exact o2.elim
  | some y =>
    obtain ⟨w, w1, w2, w3, w4⟩ := o2
    refine ⟨w, w1, w2, w3, ?_⟩
    intro t ht
    have := List.mem_singleton.mp ht
    subst this
    obtain ⟨us, u1, u2⟩ := w4 _ (List.mem_singleton.mpr rfl)
    obtain ⟨u, us, rfl, hu, u1⟩ := g_ca u1
    have := g_na u1
    subst this
    have ew : u = w := b_is_uniq hu (b_is_var rfl : b_is [z, w] ([(1, 1)], 0) w)
    subst ew
    obtain ⟨k1, k2, k3, k4⟩ : ∃ k : Nat, q_i m1 99 3 = k ∧ k ≤ 20 ∧ u = r_cnt (r_home m1 99 0) z k := u2
    exact ⟨[z, u], ⟨(b_is_var rfl : b_is [z, u] ([(0, 1)], 0) z), hu, trivial⟩, k1, k2, k3, k4⟩

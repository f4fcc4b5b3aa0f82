/-! RULES OF THE READING: children of the fresh town (99) -/
section GH
variable {g : Int} {K : r_K}
def r_hav4 (E : b_E) (id : Nat) (us : List b_T) : Bool := match id, us with
  | 41, [c, n] => (decide (c = b_c 0) && b_eqv E n (b_c 0)) || r_any E 41 (fun w => match w with
    | [c0, n0] => decide (c = r_sft c0 1) && r_ge E (b_c 19) c0 0 && (match b_fm E 99 (r_pl c0 7) with
      | some e => r_any E 43 (fun y => match y with
        | [h] => (b_eqv E e h && b_eqv E n (r_sft n0 1)) || ((r_ge E e h 1 || r_ge E h e 1) && b_eqv E n n0)
        | _ => false)
      | none => false)
    | _ => false)
  | 42, [r] => (match b_fm E 99 (b_c 3) with
    | some t => r_ge E (b_c 20) t 0 && r_any E 41 (fun w => match w with | [c, n] => b_eqv E c t && b_eqv E r n | _ => false)
    | none => false)
  | _, _ => false
def r_imp5 (E : b_E) : Bool := r_has E 1 && r_any E 44 (fun w => match w with | [_, r] => r_ge E r (b_c 7) 0 | _ => false)
def r_st5 (E : b_E) (x w : b_T) : List b_Q := if x = b_c 2 ∧ r_has E 1 = true then (match b_fm E 99 (b_c 2) with | some H => if r_ge E w H 0 = true then [(1, [])] else [] | none => []) else []
def r_st4 (E : b_E) (x w : b_T) : List b_Q := match b_fm E 99 (b_c 3) with
  | none => r_st5 E x w
  | some t => if b_eqv E x (r_pl t 7) = true then E.2.2.2.2.filter (fun u => (Nat.beq u.1 1 && u.2.isEmpty) || (Nat.beq u.1 44 && Nat.beq u.2.length 2))
    else if r_dv6 x.1 = true ∧ (x.2 - 7) % 6 ≠ 0 ∧ b_ent E.2.1 E.2.2.1 (r_sft x (-4)) = true then E.2.2.2.2.filter (fun u => Nat.beq u.1 44 && Nat.beq u.2.length 2)
    else if x = b_c 3 ∧ b_eqv E w (r_sft t 1) = true ∧ r_has E 1 = true ∧ r_ge E (b_c 19) t 0 = true ∧ r_ge E t (b_c 0) 0 = true then (match b_fm E 99 (r_pl t 7), b_fm E 99 (b_c 2) with
      | some h, some H => if r_ge E h (b_c 0) 0 = true ∧ r_ge E H h 1 = true ∧ r_any E 44 (fun y => match y with | [h1, r] => b_eqv E h h1 && r_ge E (b_c 5) r 0 | _ => false) = true then [(1, [])] else []
      | _, _ => [])
    else r_st5 E x w
section RC
variable {v : List Int} {E : b_E} {m m1 : q_M} {j : Nat} {x w : b_T}
theorem r_imp5_ok (hE : bg_E (r_F K g) v E m) : ¬ r_imp5 E = true := by
  intro h
  unfold r_imp5 at h
  rw [Bool.and_eq_true] at h
  have hJ : r_J m 99 0 := r_has_ok hE h.1
  obtain ⟨u, hu, h1, h2⟩ := r_any_ok h.2
  split at h2
  rotate_left
  · cases h2
  rename_i h0 r hu2
  obtain ⟨a, b, a1, b1, ab⟩ := r_tok2 hE hu hu2
  rw [h1] at ab
  obtain ⟨k, k1, k2, k3⟩ : ∃ k : Nat, q_i m 99 3 = k ∧ k ≤ 20 ∧ b = r_cnt (r_home m 99 0) a k := ab
  have := r_ge_ok hE h2 b1 (b_is_c 7)
  have hb := hJ.2 a (by simp only [Nat.zero_add]; omega)
  simp only [Nat.zero_add, k1, Int.toNat_natCast] at hb
  omega
theorem r_hav4_ok (hE : bg_E (r_F K g) v E m) {id : Nat} {us : List b_T} {zs : List Int} (hz : g_2 (b_is v) us zs) (h : r_hav4 E id us = true) : r_F K g id zs m := by
  unfold r_hav4 at h
  split at h
  · obtain ⟨c, ys, rfl, hc, h0⟩ := g_ca hz
    obtain ⟨n, ys, rfl, hn, h0⟩ := g_ca h0
    have := g_na h0
    subst this
    show ∃ k : Nat, c = k ∧ k ≤ 20 ∧ n = r_cnt (r_home m 99 0) g k
    rw [Bool.or_eq_true] at h
    rcases h with h | h
    · rw [Bool.and_eq_true, decide_eq_true_eq] at h
      have e := h.1
      rw [e] at hc
      have := b_is_uniq hc (b_is_c 0)
      have := b_eqv_ok hE h.2 hn (b_is_c 0)
      exact ⟨0, by omega, by omega, by simp only [r_cnt]; omega⟩
    · obtain ⟨u, hu, h1, h2⟩ := r_any_ok h
      split at h2
      rotate_left
      · cases h2
      rename_i c0 n0 hu2
      simp only [Bool.and_eq_true, decide_eq_true_eq] at h2
      obtain ⟨⟨rfl, h3⟩, h4⟩ := h2
      obtain ⟨a, b, a1, b1, ab⟩ := r_tok2 hE hu hu2
      rw [h1] at ab
      obtain ⟨k, rfl, k2, k3⟩ : ∃ k : Nat, a = k ∧ k ≤ 20 ∧ b = r_cnt (r_home m 99 0) g k := ab
      have ec := b_is_uniq hc (r_sft_ok a1)
      have c19 := r_ge_ok hE h3 (b_is_c 19) a1
      split at h4
      rotate_left
      · cases h4
      rename_i e he
      have hh := (b_fm_ok hE he (r_pl_ok (d := 7) a1)).2
      have hhome : r_home m 99 0 k = q_i m 99 (7 + 6 * k) := by simp only [r_home, Nat.zero_add]
      rw [← hhome] at hh
      obtain ⟨u2, hu2', h5, h6⟩ := r_any_ok h4
      split at h6
      rotate_left
      · cases h6
      rename_i h0' hu3
      obtain ⟨gz, g1, g2⟩ := r_tok1 hE hu2' hu3
      rw [h5] at g2
      have g2 : gz = g := g2
      subst g2
      refine ⟨k + 1, by omega, by omega, ?_⟩
      simp only [r_cnt]
      simp only [Bool.or_eq_true, Bool.and_eq_true] at h6
      rcases h6 with ⟨e1, e2⟩ | ⟨e1, e2⟩
      · have i1 := b_eqv_ok hE e1 hh g1
        have i2 := b_eqv_ok hE e2 hn (r_sft_ok b1)
        rw [if_pos i1]
        omega
      · have i2 := b_eqv_ok hE e2 hn b1
        have : r_home m 99 0 k ≠ gz := by
          rcases e1 with e1 | e1
          · have := r_ge_ok hE e1 hh g1
            omega
          · have := r_ge_ok hE e1 g1 hh
            omega
        rw [if_neg this]
        omega
  · obtain ⟨r, ys, rfl, hr, h0⟩ := g_ca hz
    have := g_na h0
    subst this
    show ∃ k : Nat, q_i m 99 3 = k ∧ k ≤ 20 ∧ r = r_cnt (r_home m 99 0) g k
    split at h
    rotate_left
    · cases h
    rename_i t ht
    have hT := r_cst hE (d := 3) ht
    rw [Bool.and_eq_true] at h
    obtain ⟨u, hu, h1, h2⟩ := r_any_ok h.2
    split at h2
    rotate_left
    · cases h2
    rename_i c n hu2
    rw [Bool.and_eq_true] at h2
    obtain ⟨a, b, a1, b1, ab⟩ := r_tok2 hE hu hu2
    rw [h1] at ab
    obtain ⟨k, rfl, k2, k3⟩ : ∃ k : Nat, a = k ∧ k ≤ 20 ∧ b = r_cnt (r_home m 99 0) g k := ab
    have i1 := b_eqv_ok hE h2.1 a1 hT
    have i2 := b_eqv_ok hE h2.2 hr b1
    exact ⟨k, i1.symm, k2, by omega⟩
  · cases h
theorem r_st4_ok (hE : bg_E (r_F K g) v E m) (hx : b_is v x (j : Int)) (hm : ∀ d k, ¬ (d = 99 ∧ k = j) → q_at m1 d k = q_at m d k) (he : b_is v w (q_i m1 99 j)) : ∀ t ∈ r_st4 E x w, bg_Q (r_F K g) v m1 t := by
  intro t0 ht
  have hq : ∀ k, k ≠ j → q_i m1 99 k = q_i m 99 k := fun k hk => q_i_eq (hm 99 k (fun q => hk q.2))
  have jJ : ∀ {N H : Int}, q_i m1 99 3 = N → q_i m1 99 2 = H → r_blk N H (r_home m1 99 0) → bg_Q (r_F K g) v m1 (1, []) := by
    intro N H e3 e2 hb
    refine ⟨[], trivial, ?_⟩
    show r_blk (q_i m1 99 (0 + 3)) (q_i m1 99 (0 + 2)) (r_home m1 99 0)
    simp only [Nat.zero_add]
    rw [e3, e2]
    exact hb
  have h5 : ∀ t0 ∈ r_st5 E x w, bg_Q (r_F K g) v m1 t0 := by
    clear ht t0
    intro t0 ht
    unfold r_st5 at ht
    split at ht
    · rename_i hc
      obtain ⟨rfl, h1⟩ := hc
      have ej := b_is_uniq hx (b_is_c 2)
      have ej : j = 2 := by omega
      subst ej
      have hJ : r_blk (q_i m 99 (0 + 3)) (q_i m 99 (0 + 2)) (r_home m 99 0) := r_has_ok hE h1
      simp only [Nat.zero_add] at hJ
      split at ht
      rotate_left
      · cases ht
      rename_i H hH
      split at ht
      rotate_left
      · cases ht
      rename_i hc2
      have := List.mem_singleton.mp ht
      subst this
      have vH := r_cst hE (d := 2) hH
      have d1 := r_ge_ok hE hc2 he vH
      exact jJ (hq 3 (by omega)) rfl (r_blk_N (fun i i1 i2 => (hq (0 + 7 + 6 * i) (by omega)).symm) (r_blk_H (by omega) hJ))
    · cases ht
  unfold r_st4 at ht
  split at ht
  · exact h5 t0 ht
  rename_i t htm
  have hT := r_cst hE (d := 3) htm
  -- the count stays
  have c44 : (j ≠ 3) → (∀ i : Nat, (i : Int) < q_i m 99 3 → 0 + 7 + 6 * i ≠ j) → ∀ u ∈ E.2.2.2.2, (Nat.beq u.1 44 && Nat.beq u.2.length 2) = true → bg_Q (r_F K g) v m1 u := by
    intro hj3 hne u hu h
    rw [Bool.and_eq_true] at h
    have h1 := Nat.eq_of_beq_eq_true h.1
    have h2 := Nat.eq_of_beq_eq_true h.2
    obtain ⟨a0, b0, hu2⟩ : ∃ a b, u.2 = [a, b] := by
      match u.2, h2 with
      | [a, b], _ => exact ⟨a, b, rfl⟩
    obtain ⟨a, b, a1, b1, ab⟩ := r_tok2 hE hu hu2
    rw [h1] at ab
    obtain ⟨k, k1, k2, k3⟩ : ∃ k : Nat, q_i m 99 3 = k ∧ k ≤ 20 ∧ b = r_cnt (r_home m 99 0) a k := ab
    refine ⟨[a, b], by rw [hu2]; exact ⟨a1, b1, trivial⟩, ?_⟩
    rw [h1]
    show ∃ k : Nat, q_i m1 99 3 = k ∧ k ≤ 20 ∧ b = r_cnt (r_home m1 99 0) a k
    refine ⟨k, by rw [hq 3 (fun q => hj3 q.symm)]; exact k1, k2, ?_⟩
    rw [r_cnt_congr (f := r_home m1 99 0) (g := r_home m 99 0) (n := k) (fun i hi => hq (0 + 7 + 6 * i) (hne i (by omega)))]
    exact k3
  split at ht
  · rename_i hc
    have ej := b_eqv_ok hE hc hx (b_is_ad (k := 6) (b_is_c 7) hT)
    obtain ⟨hu, hf⟩ := List.mem_filter.mp ht
    rw [Bool.or_eq_true] at hf
    rcases hf with hf | hf
    · rw [Bool.and_eq_true] at hf
      have h1 := Nat.eq_of_beq_eq_true hf.1
      have h2 : t0.2 = [] := List.isEmpty_iff.mp hf.2
      have e0 : t0 = (1, []) := Prod.ext h1 h2
      subst e0
      obtain ⟨zs, z1, z2⟩ := hE.2.2.2.2 _ hu
      have := g_na z1
      subst this
      have z2 : r_blk (q_i m 99 (0 + 3)) (q_i m 99 (0 + 2)) (r_home m 99 0) := z2
      simp only [Nat.zero_add] at z2
      exact jJ (hq 3 (by omega)) (hq 2 (by omega)) (r_blk_N (fun k k1 k2 => (hq (0 + 7 + 6 * k) (by omega)).symm) z2)
    · exact c44 (by omega) (fun i hi => by omega) t0 hu hf
  split at ht
  · rename_i hc
    obtain ⟨h6, h7, h4⟩ := hc
    have h4 := b_ent_ok hE.2.1 hE.2.2.1 h4 (r_sft_ok hx)
    have hj6 : ((j : Int) - x.2) % 6 = 0 := by
      obtain ⟨s, s1, s2⟩ := hx
      have := r_dv6_ok h6 s1
      omega
    obtain ⟨hu, hf⟩ := List.mem_filter.mp ht
    exact c44 (by omega) (fun i hi => by omega) t0 hu hf
  split at ht
  · rename_i hc
    obtain ⟨rfl, hw, h1, h19, h0⟩ := hc
    have ej := b_is_uniq hx (b_is_c 3)
    have ej : j = 3 := by omega
    subst ej
    have hJ : r_blk (q_i m 99 (0 + 3)) (q_i m 99 (0 + 2)) (r_home m 99 0) := r_has_ok hE h1
    simp only [Nat.zero_add] at hJ
    have ew := b_eqv_ok hE hw he (r_sft_ok hT)
    have c19 := r_ge_ok hE h19 (b_is_c 19) hT
    have c0 := r_ge_ok hE h0 hT (b_is_c 0)
    obtain ⟨n, hn⟩ : ∃ n : Nat, q_i m 99 3 = n := ⟨(q_i m 99 3).toNat, by omega⟩
    rw [hn] at hT
    split at ht
    rotate_left
    · cases ht
    rename_i h H hh hH
    split at ht
    rotate_left
    · cases ht
    rename_i hc2
    have := List.mem_singleton.mp ht
    subst this
    have vh := (b_fm_ok hE hh (r_pl_ok (d := 7) hT)).2
    have vH := r_cst hE (d := 2) hH
    have d1 := r_ge_ok hE hc2.1 vh (b_is_c 0)
    have d2 := r_ge_ok hE hc2.2.1 vH vh
    obtain ⟨u, hu, u1, u2⟩ := r_any_ok hc2.2.2
    split at u2
    rotate_left
    · cases u2
    rename_i h1' r' hu2
    rw [Bool.and_eq_true] at u2
    obtain ⟨a, b, a1, b1, ab⟩ := r_tok2 hE hu hu2
    rw [u1] at ab
    obtain ⟨k, k1, k2, k3⟩ : ∃ k : Nat, q_i m 99 3 = k ∧ k ≤ 20 ∧ b = r_cnt (r_home m 99 0) a k := ab
    have i1 := b_eqv_ok hE u2.1 vh a1
    have i2 := r_ge_ok hE u2.2 (b_is_c 5) b1
    have hhome : r_home m 99 0 n = q_i m 99 (7 + 6 * n) := by simp only [r_home, Nat.zero_add]
    have ekn : k = n := by omega
    subst ekn
    refine jJ (N := q_i m 99 3 + 1) (H := q_i m 99 2) ew (hq 2 (by omega)) ?_
    refine r_blk_N (f := r_home m 99 0) (fun i i1 i2 => (hq (0 + 7 + 6 * i) (by omega)).symm) ?_
    refine r_blk_1 (f := r_home m 99 0) hn (by omega) hJ (by omega) (by omega) ?_
    rw [hhome, i1]
    omega
  exact h5 t0 ht
end RC
end GH

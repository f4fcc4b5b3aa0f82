section GH
variable {g : Int} {K : r_K}
def r_any (E : b_E) (id : Nat) (f : List b_T → Bool) : Bool := E.2.2.2.2.any (fun u => Nat.beq u.1 id && f u.2)
theorem r_any_ok {E : b_E} {id : Nat} {f : List b_T → Bool} (h : r_any E id f = true) : ∃ u ∈ E.2.2.2.2, u.1 = id ∧ f u.2 = true := by
  obtain ⟨u, hu, h1⟩ := List.any_eq_true.mp h
  rw [Bool.and_eq_true] at h1
  exact ⟨u, hu, Nat.eq_of_beq_eq_true h1.1, h1.2⟩
/-- the child of a place: (p - d) / 6 -/
def r_un (p : b_T) (d : Int) : b_T := (b_dv 6 p.1, (p.2 - d) / 6)
def r_hJ (E : b_E) (id : Nat) : Bool := match r_jT id with
  | none => false
  | some q => E.2.2.2.2.any (fun u => match r_cT u.1, u.2 with
    | some (d, s), [t] => decide (d = q) && r_ge E t (b_c 277) 0 && [0, 1, 2, 3, 4].any (fun i => decide (r_jT i = some s) && r_has E i)
    | _, _ => false)
/-- a token holds, by what is known -/
def r_hav (E : b_E) (id : Nat) (us : List b_T) : Bool := match us with
  | [] => (match id with
    | 34 => E.2.2.2.1.any (fun o => Nat.beq o.1 94 && (match r_un o.2.1 11 with | t => (b_iv E.2.1 t).isSome && r_chd E t && r_yes E t))
    | _ => r_hJ E id)
  | [a] => (match r_cT id with
    | some _ => r_ge E (b_c 0) a 0
    | none => (match id with
      | 21 => r_chd E a
      | 32 => E.2.2.2.1.any (fun o => Nat.beq o.1 94 && decide (o.2.2.1 = false) && b_eqv E o.2.2.2 a && (match r_un o.2.1 7 with | t => decide (r_pl t 7 = o.2.1) && (b_iv E.2.1 t).isSome && r_chd E t && r_yes E t))
      | 35 => r_ge E (b_c 0) a 0 && r_has E 34 && r_has E 0
      | 38 => r_ge E (b_c 0) a 0 && r_has E 0 && r_chd E (b_c 0)
      | _ => false))
  | [a, b] => (match id with
    | 33 => (r_ge E (b_c 0) b 0 && r_any E 32 (fun w => decide (w = [a]))) || r_any E 33 (fun w => match w with | [h0, c0] => decide (h0 = a ∧ b = r_sft c0 1) && r_no E a c0 | _ => false)
    | 40 => (r_ge E (b_c 0) b 0 && r_any E 39 (fun w => decide (w = [a]))) || r_any E 40 (fun w => match w with | [h0, c0] => decide (h0 = a ∧ b = r_sft c0 1) && r_nz E (b_fm E 94 (r_pl c0 7)) a | _ => false)
    | _ => false)
  | [h, c, n] => (match id with
    | 30 => (decide (c = b_c 0) && r_ge E (b_c 0) n 0) || r_any E 30 (fun w => match w with | [h0, c0, n0] => decide (h0 = h ∧ c = r_sft c0 1) && r_ge E (b_c 19) c0 0 && (r_ge E n0 n 0 || (match b_fm E 94 (r_pl c0 7) with | some e => b_eqv E e h && r_ge E n0 n (-1) | none => false)) | _ => false)
    | _ => false)
  | _ => false
/-- this can't be -/
def r_imp (E : b_E) : Bool := match E.2.2.2.2 with
  | [] => false
  | _ => (match b_fm E 94 (b_c 3) with
    | some t => r_any E 33 (fun w => match w with | [_, c] => r_ge E c t 0 | _ => false)
      || r_any E 40 (fun w => match w with | [_, c] => r_ge E c t 0 | _ => false)
      || (r_has E 0 && r_ge E (b_c 20) t 0 && r_any E 30 (fun w => match w with
        | [h, c, n] => (r_ge E n (b_c 7) 0 && r_ge E t c 0) || (r_ge E n (b_c 6) 0 && r_ge E t c 1 && (match b_fm E 94 (r_pl c 7) with | some e => b_eqv E e h | none => false))
        | _ => false))
    | none => false)
    || (match b_fm E 94 (b_c 2) with
    | some t => r_has E 0 && (r_any E 35 (fun w => match w with | [h] => r_ge E h t 0 | _ => false) || r_any E 38 (fun w => match w with | [h] => r_ge E h t 0 | _ => false))
    | none => false)
section RULK
variable {v : List Int} {E : b_E} {m : q_M}
theorem r_hJ_ok (hE : bg_E (r_F K g) v E m) {id : Nat} (h : r_hJ E id = true) : r_F K g id [] m := by
  unfold r_hJ at h
  split at h
  · cases h
  rename_i q hq
  obtain ⟨u, hu, h1⟩ := List.any_eq_true.mp h
  split at h1
  rotate_left
  · cases h1
  rename_i d s t hT hu2
  simp only [Bool.and_eq_true, decide_eq_true_eq] at h1
  obtain ⟨⟨rfl, h2⟩, h3⟩ := h1
  obtain ⟨i, hi, h4⟩ := List.any_eq_true.mp h3
  simp only [Bool.and_eq_true, decide_eq_true_eq] at h4
  have hS := r_has_ok hE h4.2
  obtain ⟨z, z1, z2⟩ := r_tok1 hE hu hu2
  have h277 := r_ge_ok hE h2 z1 (b_is_c 277)
  have hjT := r_cT_j hT
  unfold r_F at z2 hS ⊢
  simp only [hjT, hT] at z2
  simp only [h4.1] at hS
  simp only [hq]
  unfold r_J at hS ⊢
  have hc : ∀ k, k < 277 → q_i m d.1 (d.2 + k) = q_i m s.1 (s.2 + k) := fun k hk => by unfold q_i; rw [z2 k (by omega) hk]
  rw [hc 3 (by omega), hc 2 (by omega)]
  refine r_blk_congr (fun k hk => ?_) hS
  unfold r_home
  rw [Nat.add_assoc, Nat.add_assoc]
  exact (hc (7 + 6 * k) (by omega)).symm
theorem r_F34 (hE : bg_E (r_F K g) v E m) {t : b_T} {z : Int} (h1 : r_chd E t = true) (h2 : r_yes E t = true) (ht : b_is v t z) : ∃ k : Nat, z = k ∧ k < 20 ∧ (k : Int) < q_i m 94 3 ∧ r_sch m k := by
  obtain ⟨k, rfl, k1, k2⟩ := r_chd_ok hE h1 ht
  exact ⟨k, rfl, k1, k2, r_yes_ok hE h2 ht⟩
theorem r_hav_ok (hE : bg_E (r_F K g) v E m) {id : Nat} {us : List b_T} {zs : List Int} (hz : g_2 (b_is v) us zs) (h : r_hav E id us = true) : r_F K g id zs m := by
  unfold r_hav at h
  split at h
  · have := g_na hz
    subst this
    split at h
    · obtain ⟨o, ho, h1⟩ := List.any_eq_true.mp h
      simp only [Bool.and_eq_true] at h1
      obtain ⟨z, hz1⟩ := b_iv_ex hE.2.1 h1.2.1.1
      obtain ⟨k, -, k1, k2, k3⟩ := r_F34 hE h1.2.1.2 h1.2.2 hz1
      exact ⟨k, k1, k2, k3⟩
    · exact r_hJ_ok hE h
  · rename_i a
    obtain ⟨y, ys, rfl, hy, h0⟩ := g_ca hz
    have := g_na h0
    subst this
    split at h
    · rename_i q hq
      have := r_ge_ok hE h (b_is_c 0) hy
      have hj := r_cT_j hq
      unfold r_F
      simp only [hj, hq]
      intro k hk
      omega
    · split at h
      · obtain ⟨k, rfl, k1, k2⟩ := r_chd_ok hE h hy
        exact (⟨by omega, by omega, k2⟩ : 0 ≤ (k : Int) ∧ (k : Int) < 20 ∧ (k : Int) < q_i m 94 3)
      · obtain ⟨o, ho, h1⟩ := List.any_eq_true.mp h
        simp only [Bool.and_eq_true, decide_eq_true_eq] at h1
        obtain ⟨⟨⟨h2, h3⟩, h4⟩, ⟨⟨h5, h6⟩, h7⟩, h8⟩ := h1
        obtain ⟨z, hz1⟩ := b_iv_ex hE.2.1 h6
        obtain ⟨k, rfl, k1, k2, k3⟩ := r_F34 hE h7 h8 hz1
        obtain ⟨j, j1, j2⟩ := hE.2.2.2.1 o ho
        rw [← h5] at j1
        have ej : j = 7 + 6 * k := by
          have := b_is_uniq j1 (r_pl_ok (d := 7) hz1)
          omega
        obtain ⟨oc, ot, olg, oe⟩ := o
        simp only at h2 h3 h4 j2
        subst h3
        have h2 := Nat.eq_of_beq_eq_true h2
        subst h2
        obtain ⟨w, w1, w2⟩ := j2
        refine ⟨k, k1, k2, k3, ?_⟩
        unfold r_home q_i
        rw [show 0 + 7 + 6 * k = j by omega, w1]
        exact b_eqv_ok hE h4 w2 hy
      · simp only [Bool.and_eq_true] at h
        have c1 := r_ge_ok hE h.1.1 (b_is_c 0) hy
        obtain ⟨k, k1, k2, k3⟩ : ∃ k : Nat, k < 20 ∧ (k : Int) < q_i m 94 3 ∧ r_sch m k := r_has_ok hE h.1.2
        have hJ : r_blk (q_i m 94 3) (q_i m 94 2) (r_home m 94 0) := r_has_ok hE h.2
        exact ⟨k, k1, k2, k3, by have := (hJ.1 k k1 k2).1; omega⟩
      · simp only [Bool.and_eq_true] at h
        have c1 := r_ge_ok hE h.1.1 (b_is_c 0) hy
        have hJ : r_blk (q_i m 94 3) (q_i m 94 2) (r_home m 94 0) := r_has_ok hE h.1.2
        obtain ⟨k, e0, k1, k2⟩ := r_chd_ok hE h.2 (b_is_c 0)
        exact ⟨k, k1, k2, by have := (hJ.1 k k1 k2).1; omega⟩
      · cases h
  · rename_i a b
    obtain ⟨y, ys, rfl, hy, h0⟩ := g_ca hz
    obtain ⟨z, zs, rfl, hz1, h1⟩ := g_ca h0
    have := g_na h1
    subst this
    split at h
    · rw [Bool.or_eq_true] at h
      rcases h with h | h
      · rw [Bool.and_eq_true] at h
        obtain ⟨u, hu, h2, h3⟩ := r_any_ok h.2
        obtain ⟨w, w1, w2⟩ := r_tok1 hE hu (of_decide_eq_true h3)
        rw [h2] at w2
        have ew := b_is_uniq w1 hy
        subst ew
        obtain ⟨k, k1, k2, k3, k4⟩ : ∃ k : Nat, k < 20 ∧ (k : Int) < q_i m 94 3 ∧ r_sch m k ∧ r_home m 94 0 k = w := w2
        have c1 := r_ge_ok hE h.1 (b_is_c 0) hz1
        exact ⟨k, k1, k2, k3, k4, by omega⟩
      · obtain ⟨u, hu, h2, h3⟩ := r_any_ok h
        split at h3
        rotate_left
        · cases h3
        rename_i h0 c0 hu2
        simp only [Bool.and_eq_true, decide_eq_true_eq] at h3
        obtain ⟨⟨rfl, rfl⟩, h4⟩ := h3
        obtain ⟨w, c, w1, w2, w3⟩ := r_tok2 hE hu hu2
        rw [h2] at w3
        have ew := b_is_uniq w1 hy
        subst ew
        have ec := b_is_uniq hz1 (r_sft_ok w2)
        subst ec
        obtain ⟨k, k1, k2, k3, k4, k5⟩ : ∃ k : Nat, k < 20 ∧ (k : Int) < q_i m 94 3 ∧ r_sch m k ∧ r_home m 94 0 k = w ∧ c ≤ k := w3
        refine ⟨k, k1, k2, k3, k4, ?_⟩
        by_cases hk : c = k
        · subst hk
          exact absurd ⟨k3, k4⟩ (r_no_ok hE h4 w2 hy)
        · omega
    · rw [Bool.or_eq_true] at h
      rcases h with h | h
      · rw [Bool.and_eq_true] at h
        obtain ⟨u, hu, h2, h3⟩ := r_any_ok h.2
        obtain ⟨w, w1, w2⟩ := r_tok1 hE hu (of_decide_eq_true h3)
        rw [h2] at w2
        have ew := b_is_uniq w1 hy
        subst ew
        obtain ⟨k, k1, k2, k4⟩ : ∃ k : Nat, k < 20 ∧ (k : Int) < q_i m 94 3 ∧ r_home m 94 0 k = w := w2
        have c1 := r_ge_ok hE h.1 (b_is_c 0) hz1
        exact ⟨k, k1, k2, k4, by omega⟩
      · obtain ⟨u, hu, h2, h3⟩ := r_any_ok h
        split at h3
        rotate_left
        · cases h3
        rename_i h0 c0 hu2
        simp only [Bool.and_eq_true, decide_eq_true_eq] at h3
        obtain ⟨⟨rfl, rfl⟩, h4⟩ := h3
        obtain ⟨w, c, w1, w2, w3⟩ := r_tok2 hE hu hu2
        rw [h2] at w3
        have ew := b_is_uniq w1 hy
        subst ew
        have ec := b_is_uniq hz1 (r_sft_ok w2)
        subst ec
        obtain ⟨k, k1, k2, k4, k5⟩ : ∃ k : Nat, k < 20 ∧ (k : Int) < q_i m 94 3 ∧ r_home m 94 0 k = w ∧ c ≤ k := w3
        refine ⟨k, k1, k2, k4, ?_⟩
        by_cases hk : c = k
        · subst hk
          refine absurd ?_ (r_nz_ok hE h4 (r_pl_ok (d := 7) w2) hy)
          rw [← k4]
          unfold r_home
          rw [Nat.zero_add]
        · omega
    · cases h
  · rename_i hh c n
    obtain ⟨y, ys, rfl, hy, h0⟩ := g_ca hz
    obtain ⟨z, zs, rfl, hz1, h1⟩ := g_ca h0
    obtain ⟨w, ws, rfl, hw, h2⟩ := g_ca h1
    have := g_na h2
    subst this
    split at h
    rotate_left
    · cases h
    rw [Bool.or_eq_true] at h
    rcases h with h | h
    · simp only [Bool.and_eq_true, decide_eq_true_eq] at h
      obtain ⟨rfl, h3⟩ := h
      have e0 := b_is_uniq hz1 (b_is_c 0)
      have c1 := r_ge_ok hE h3 (b_is_c 0) hw
      exact ⟨0, by omega, by omega, by show w ≤ ((0 : Nat) : Int); omega⟩
    · obtain ⟨u, hu, h2, h3⟩ := r_any_ok h
      split at h3
      rotate_left
      · cases h3
      rename_i h0 c0 n0 hu2
      simp only [Bool.and_eq_true, decide_eq_true_eq] at h3
      obtain ⟨⟨⟨rfl, rfl⟩, h4⟩, h5⟩ := h3
      obtain ⟨a, b, d, a1, a2, a3, a4⟩ := r_tok3 hE hu hu2
      rw [h2] at a4
      have ea := b_is_uniq a1 hy
      subst ea
      have ec := b_is_uniq hz1 (r_sft_ok a2)
      subst ec
      obtain ⟨k, rfl, k1, k2⟩ : ∃ k : Nat, b = k ∧ k ≤ 20 ∧ d ≤ r_cnt (r_home m 94 0) a k := a4
      have c1 := r_ge_ok hE h4 (b_is_c 19) a2
      refine ⟨k + 1, by omega, by omega, ?_⟩
      have hstep : r_cnt (r_home m 94 0) a (k + 1) = r_cnt (r_home m 94 0) a k + (if r_home m 94 0 k = a then 1 else 0) := rfl
      rw [Bool.or_eq_true] at h5
      rcases h5 with h5 | h5
      · have c2 := r_ge_ok hE h5 a3 hw
        rw [hstep]
        omega
      · split at h5
        rotate_left
        · cases h5
        rename_i e he
        rw [Bool.and_eq_true] at h5
        have c2 := r_ge_ok hE h5.2 a3 hw
        have c3 := b_eqv_ok hE h5.1 (b_fm_ok hE he (r_pl_ok (d := 7) a2)).2 hy
        have c4 : r_home m 94 0 k = a := by
          unfold r_home
          rw [Nat.zero_add]
          exact c3
        rw [hstep, if_pos c4]
        omega
  · cases h
theorem r_imp_ok (hE : bg_E (r_F K g) v E m) : ¬ r_imp E = true := by
  intro h
  unfold r_imp at h
  split at h
  · cases h
  rw [Bool.or_eq_true] at h
  rcases h with h | h
  · split at h
    rotate_left
    · cases h
    rename_i t ht
    have hN := r_cst hE (d := 3) ht
    rw [Bool.or_eq_true, Bool.or_eq_true] at h
    rcases h with (h | h) | h
    · obtain ⟨u, hu, h2, h3⟩ := r_any_ok h
      split at h3
      rotate_left
      · cases h3
      rename_i a c hu2
      obtain ⟨w, z, w1, w2, w3⟩ := r_tok2 hE hu hu2
      rw [h2] at w3
      obtain ⟨k, k1, k2, -, -, k5⟩ : ∃ k : Nat, k < 20 ∧ (k : Int) < q_i m 94 3 ∧ r_sch m k ∧ r_home m 94 0 k = w ∧ z ≤ k := w3
      have := r_ge_ok hE h3 w2 hN
      omega
    · obtain ⟨u, hu, h2, h3⟩ := r_any_ok h
      split at h3
      rotate_left
      · cases h3
      rename_i a c hu2
      obtain ⟨w, z, w1, w2, w3⟩ := r_tok2 hE hu hu2
      rw [h2] at w3
      obtain ⟨k, k1, k2, -, k5⟩ : ∃ k : Nat, k < 20 ∧ (k : Int) < q_i m 94 3 ∧ r_home m 94 0 k = w ∧ z ≤ k := w3
      have := r_ge_ok hE h3 w2 hN
      omega
    · simp only [Bool.and_eq_true] at h
      have hJ : r_blk (q_i m 94 3) (q_i m 94 2) (r_home m 94 0) := r_has_ok hE h.1.1
      have h20 := r_ge_ok hE h.1.2 (b_is_c 20) hN
      obtain ⟨u, hu, h2, h3⟩ := r_any_ok h.2
      split at h3
      rotate_left
      · cases h3
      rename_i a c n hu2
      obtain ⟨x, y, z, x1, y1, z1, hF⟩ := r_tok3 hE hu hu2
      rw [h2] at hF
      obtain ⟨k, rfl, k1, k2⟩ : ∃ k : Nat, y = k ∧ k ≤ 20 ∧ z ≤ r_cnt (r_home m 94 0) x k := hF
      have hmax := hJ.2 x (by omega)
      rw [Bool.or_eq_true] at h3
      rcases h3 with h3 | h3
      · rw [Bool.and_eq_true] at h3
        have c1 := r_ge_ok hE h3.1 z1 (b_is_c 7)
        have c2 := r_ge_ok hE h3.2 hN y1
        have := r_cnt_mono (f := r_home m 94 0) (h := x) (n := (q_i m 94 3).toNat) (k := k) (by omega)
        omega
      · simp only [Bool.and_eq_true] at h3
        have c1 := r_ge_ok hE h3.1.1 z1 (b_is_c 6)
        have c2 := r_ge_ok hE h3.1.2 hN y1
        have h4 := h3.2
        split at h4
        rotate_left
        · cases h4
        rename_i e he
        have c3 := b_eqv_ok hE h4 (b_fm_ok hE he (r_pl_ok (d := 7) y1)).2 x1
        have c4 : r_home m 94 0 k = x := by
          unfold r_home
          rw [Nat.zero_add]
          exact c3
        have c5 := r_cnt_mono (f := r_home m 94 0) (h := x) (n := (q_i m 94 3).toNat) (k := k + 1) (by omega)
        have hstep : r_cnt (r_home m 94 0) x (k + 1) = r_cnt (r_home m 94 0) x k + (if r_home m 94 0 k = x then 1 else 0) := rfl
        rw [if_pos c4] at hstep
        omega
  · split at h
    rotate_left
    · cases h
    rename_i t ht
    have hH := r_cst hE (d := 2) ht
    rw [Bool.and_eq_true] at h
    have hJ : r_blk (q_i m 94 3) (q_i m 94 2) (r_home m 94 0) := r_has_ok hE h.1
    have h1 := h.2
    rw [Bool.or_eq_true] at h1
    rcases h1 with h1 | h1
    · obtain ⟨u, hu, h2, h3⟩ := r_any_ok h1
      split at h3
      rotate_left
      · cases h3
      rename_i a hu2
      obtain ⟨w, w1, w3⟩ := r_tok1 hE hu hu2
      rw [h2] at w3
      obtain ⟨k, k1, k2, -, k5⟩ : ∃ k : Nat, k < 20 ∧ (k : Int) < q_i m 94 3 ∧ r_sch m k ∧ w ≤ r_home m 94 0 k := w3
      have := r_ge_ok hE h3 w1 hH
      have := (hJ.1 k k1 k2).2
      omega
    · obtain ⟨u, hu, h2, h3⟩ := r_any_ok h1
      split at h3
      rotate_left
      · cases h3
      rename_i a hu2
      obtain ⟨w, w1, w3⟩ := r_tok1 hE hu hu2
      rw [h2] at w3
      obtain ⟨k, k1, k2, k5⟩ : ∃ k : Nat, k < 20 ∧ (k : Int) < q_i m 94 3 ∧ w ≤ r_home m 94 0 k := w3
      have := r_ge_ok hE h3 w1 hH
      have := (hJ.1 k k1 k2).2
      omega
end RULK
end GH

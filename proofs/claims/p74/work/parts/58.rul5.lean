/-! RULES OF THE READING'S END -/
section GH
variable {g : Int} {K : r_K}
def r_sto5 (E : b_E) (c : Nat) (x : b_T) (e : b_N) : List b_Q := match e with
  | (true, _) => []
  | (false, w) => (match Nat.beq c 93 with
    | true => if x = b_c 8 then (match b_fm E 93 (b_c 8) with
      | some t => (if r_has E 120 = true ∧ r_ge E w t 0 = true then [(120, [])] else []) ++ (if (r_has E 121 = true ∧ r_ge E w t 0 = true) ∨ (r_has E 120 = true ∧ r_ge E w t 1 = true) then [(121, [])] else [])
      | none => []) else []
    | false => (match Nat.beq c 99 with
      | true => E.2.2.2.2.filterMap (fun u => match Nat.beq u.1 126, u.2 with
        | true, [a] => if b_eqv E x a = true ∧ b_eqv E w (b_c 0) = true then some (126, [r_sft a 1]) else none
        | _, _ => none)
      | false => []))
def r_hav5 (E : b_E) (id : Nat) (us : List b_T) : Bool := match id, us with
  | 120, [] => r_has E 121
  | 122, [] => r_has E 121 || (match b_fm E 93 (b_c 10) with | some t => b_eqv E t (b_c 0) | none => false)
  | 123, [] => r_has E 121 || r_has E 122 || (match b_fm E 93 (b_c 12) with | some t => r_ge E t (b_c 0) 1 || r_ge E (b_c 0) t 1 | none => false)
  | 124, [c] => (match b_fm E 93 (b_c 8) with
    | some t => r_ge E t (b_c 0) 0 && r_ge E (b_c 1199) t 0 && (match b_fm E 97 t with | some e => r_any E 127 (fun w => match w with | [r, s] => b_eqv E r c && b_eqv E s e | _ => false) | none => false)
    | none => false)
  | 126, [c] => r_ge E (b_c 0) c 0
  | 1, [] => r_any E 126 (fun w => match w with | [c] => r_ge E c (b_c 4) 0 | _ => false)
  | _, _ => false
def r_imp6 (E : b_E) : Bool := (match b_fm E 93 (b_c 8) with
    | some t => (match b_fm E 97 t with
      | some y => r_any E 124 (fun w => match w with | [c] => r_any E 127 (fun q => match q with | [r, s] => b_eqv E s y && (r_ge E r c 1 || r_ge E c r 1) | _ => false) | _ => false)
      | none => false)
    | none => false)
  || (r_has E 125 && (match b_fm E 93 (b_c 10), b_fm E 93 (b_c 12) with
    | some t, some u => (r_ge E t (b_c 0) 1 || r_ge E (b_c 0) t 1) && b_eqv E u (b_c 0)
    | _, _ => false))
section R5
variable {v : List Int} {E : b_E} {m m1 : q_M} {c j : Nat} {x : b_T} {e : b_N}
theorem r_sto5_ok (hE : bg_E (r_F K g) v E m) (hx : b_is v x (j : Int)) (hm : ∀ d k, ¬ (d = c ∧ k = j) → q_at m1 d k = q_at m d k) (he : bg_n v e (q_at m1 c j)) : ∀ t ∈ r_sto5 E c x e, bg_Q (r_F K g) v m1 t := by
  intro t ht
  unfold r_sto5 at ht
  split at ht
  · cases ht
  rename_i w
  obtain ⟨z, z1, z2⟩ := he
  have hw : b_is v w (q_i m1 c j) := by
    unfold q_i
    rw [z1]
    exact z2
  split at ht
  · rename_i hc
    have hc := Nat.eq_of_beq_eq_true hc
    subst hc
    split at ht
    rotate_left
    · cases ht
    rename_i hx8
    subst hx8
    have hj : (j : Int) = (8 : Nat) := b_is_uniq hx (b_is_c _)
    have hj : j = 8 := by omega
    subst hj
    split at ht
    rotate_left
    · cases ht
    rename_i u hu
    have hU := r_cst hE (c := 93) (d := 8) hu
    rcases List.mem_append.mp ht with ht | ht
    · split at ht
      rotate_left
      · cases ht
      rename_i h
      have := List.mem_singleton.mp ht
      subst this
      have h1 : g ≤ q_i m 93 8 := r_has_ok hE h.1
      have h2 := r_ge_ok hE h.2 hw hU
      exact ⟨[], trivial, show g ≤ q_i m1 93 8 by omega⟩
    · split at ht
      rotate_left
      · cases ht
      rename_i h
      have := List.mem_singleton.mp ht
      subst this
      refine ⟨[], trivial, show g < q_i m1 93 8 from ?_⟩
      rcases h with h | h
      · have h1 : g < q_i m 93 8 := r_has_ok hE h.1
        have h2 := r_ge_ok hE h.2 hw hU
        omega
      · have h1 : g ≤ q_i m 93 8 := r_has_ok hE h.1
        have h2 := r_ge_ok hE h.2 hw hU
        omega
  · split at ht
    rotate_left
    · cases ht
    rename_i hc
    have hc := Nat.eq_of_beq_eq_true hc
    subst hc
    obtain ⟨u, hu, hf⟩ := List.mem_filterMap.mp ht
    split at hf
    rotate_left
    · cases hf
    rename_i a h1 h2
    have h1 := Nat.eq_of_beq_eq_true h1
    split at hf
    rotate_left
    · cases hf
    rename_i hc
    have := Option.some.inj hf
    subst this
    obtain ⟨y, y1, y2⟩ := r_tok1 hE hu h2
    rw [h1] at y2
    have y2 : ∀ j : Nat, (j : Int) < y → j < 277 → q_i m 99 j = 0 := y2
    have e1 := b_eqv_ok hE hc.1 hx y1
    have e2 := b_eqv_ok hE hc.2 hw (b_is_c 0)
    refine ⟨[y + 1], ⟨r_sft_ok (d := 1) y1, trivial⟩, ?_⟩
    show ∀ k : Nat, (k : Int) < y + 1 → k < 277 → q_i m1 99 k = 0
    intro k k1 k2
    by_cases hk : k = j
    · subst hk
      exact e2
    · rw [q_i_eq (hm 99 k (fun q => hk q.2))]
      exact y2 k (by omega) k2
theorem r_hav5_ok (hE : bg_E (r_F K g) v E m) {id : Nat} {us : List b_T} {zs : List Int} (hz : g_2 (b_is v) us zs) (h : r_hav5 E id us = true) : r_F K g id zs m := by
  unfold r_hav5 at h
  split at h
  · have := g_na hz
    subst this
    have h1 : g < q_i m 93 8 := r_has_ok hE h
    show g ≤ q_i m 93 8
    omega
  · have := g_na hz
    subst this
    show g < q_i m 93 8 ∨ q_i m 93 10 = 0
    rw [Bool.or_eq_true] at h
    rcases h with h | h
    · exact Or.inl (show g < q_i m 93 8 from r_has_ok hE h)
    · split at h
      rotate_left
      · cases h
      rename_i t ht
      exact Or.inr (b_eqv_ok hE h (r_cst hE (c := 93) (d := 10) ht) (b_is_c 0))
  · have := g_na hz
    subst this
    show g < q_i m 93 8 ∨ q_i m 93 10 = 0 ∨ q_i m 93 12 ≠ 0
    rw [Bool.or_eq_true, Bool.or_eq_true] at h
    rcases h with (h | h) | h
    · exact Or.inl (show g < q_i m 93 8 from r_has_ok hE h)
    · have h1 : g < q_i m 93 8 ∨ q_i m 93 10 = 0 := r_has_ok hE h
      rcases h1 with h1 | h1
      · exact Or.inl h1
      · exact Or.inr (Or.inl h1)
    · split at h
      rotate_left
      · cases h
      rename_i t ht
      have hT := r_cst hE (c := 93) (d := 12) ht
      rw [Bool.or_eq_true] at h
      refine Or.inr (Or.inr ?_)
      rcases h with h | h
      · have := r_ge_ok hE h hT (b_is_c 0)
        omega
      · have := r_ge_ok hE h (b_is_c 0) hT
        omega
  · obtain ⟨c, ys, rfl, hc, h0⟩ := g_ca hz
    have := g_na h0
    subst this
    show 0 ≤ q_i m 93 8 ∧ q_i m 93 8 < 1200 ∧ r_lo (q_i m 97 (q_i m 93 8).toNat) = c
    split at h
    rotate_left
    · cases h
    rename_i t ht
    have hT := r_cst hE (c := 93) (d := 8) ht
    simp only [Bool.and_eq_true] at h
    have h1 := r_ge_ok hE h.1.1 hT (b_is_c 0)
    have h2 := r_ge_ok hE h.1.2 (b_is_c 1199) hT
    have h3 := h.2
    split at h3
    rotate_left
    · cases h3
    rename_i y hy
    have hj : b_is v t (((q_i m 93 8).toNat : Nat) : Int) := by
      rw [Int.toNat_of_nonneg (by omega)]
      exact hT
    obtain ⟨u, hu, u1, u2⟩ := r_any_ok h3
    split at u2
    rotate_left
    · cases u2
    rename_i r s hu2
    obtain ⟨a, b, a1, b1, ab⟩ := r_tok2 hE hu hu2
    rw [u1] at ab
    have ab : a = r_lo b := ab
    rw [Bool.and_eq_true] at u2
    have e1 := b_eqv_ok hE u2.1 a1 hc
    have e2 := b_eqv_ok hE u2.2 b1 (b_fm_ok hE hy hj).2
    exact ⟨by omega, by omega, by rw [← e2, ← ab, e1]⟩
  · obtain ⟨c, ys, rfl, hc, h0⟩ := g_ca hz
    have := g_na h0
    subst this
    show ∀ j : Nat, (j : Int) < c → j < 277 → q_i m 99 j = 0
    have := r_ge_ok hE h (b_is_c 0) hc
    intro j h1 h2
    omega
  · have := g_na hz
    subst this
    show r_J m 99 0
    obtain ⟨u, hu, h1, h2⟩ := r_any_ok h
    split at h2
    rotate_left
    · cases h2
    rename_i c hu2
    obtain ⟨y, y1, y2⟩ := r_tok1 hE hu hu2
    rw [h1] at y2
    have y2 : ∀ j : Nat, (j : Int) < y → j < 277 → q_i m 99 j = 0 := y2
    have := r_ge_ok hE h2 y1 (b_is_c 4)
    have e3 : q_i m 99 3 = 0 := y2 3 (by omega) (by omega)
    unfold r_J
    simp only [Nat.zero_add]
    rw [e3]
    exact ⟨fun k _ k2 => by omega, fun h _ => by simp [r_cnt]⟩
  · cases h
theorem r_imp6_ok (hE : bg_E (r_F K g) v E m) : ¬ r_imp6 E = true := by
  intro h
  unfold r_imp6 at h
  rw [Bool.or_eq_true] at h
  rcases h with h | h
  · split at h
    rotate_left
    · cases h
    rename_i t ht
    have hT := r_cst hE (c := 93) (d := 8) ht
    split at h
    rotate_left
    · cases h
    rename_i y hy
    obtain ⟨u, hu, h1, h2⟩ := r_any_ok h
    split at h2
    rotate_left
    · cases h2
    rename_i c hu2
    obtain ⟨a, a1, a2⟩ := r_tok1 hE hu hu2
    rw [h1] at a2
    obtain ⟨b1, b2, b3⟩ : 0 ≤ q_i m 93 8 ∧ q_i m 93 8 < 1200 ∧ r_lo (q_i m 97 (q_i m 93 8).toNat) = a := a2
    have hj : b_is v t (((q_i m 93 8).toNat : Nat) : Int) := by
      rw [Int.toNat_of_nonneg (by omega)]
      exact hT
    have hy2 := (b_fm_ok hE hy hj).2
    obtain ⟨u3, hu3, u4, u5⟩ := r_any_ok h2
    split at u5
    rotate_left
    · cases u5
    rename_i r s hu6
    obtain ⟨x, y, x1, y1, xy⟩ := r_tok2 hE hu3 hu6
    rw [u4] at xy
    have xy : x = r_lo y := xy
    rw [Bool.and_eq_true, Bool.or_eq_true] at u5
    have e1 := b_eqv_ok hE u5.1 y1 hy2
    rw [← e1, ← xy] at b3
    rcases u5.2 with h2 | h2
    · have := r_ge_ok hE h2 x1 a1
      omega
    · have := r_ge_ok hE h2 a1 x1
      omega
  · rw [Bool.and_eq_true] at h
    have h1 : q_i m 93 10 = 0 ∨ q_i m 93 12 ≠ 0 := r_has_ok hE h.1
    have h2 := h.2
    split at h2
    rotate_left
    · cases h2
    rename_i t u ht hu
    have hT := r_cst hE (c := 93) (d := 10) ht
    have hU := r_cst hE (c := 93) (d := 12) hu
    rw [Bool.and_eq_true, Bool.or_eq_true] at h2
    have e := b_eqv_ok hE h2.2 hU (b_is_c 0)
    rcases h2.1 with h3 | h3
    · have := r_ge_ok hE h3 hT (b_is_c 0)
      omega
    · have := r_ge_ok hE h3 (b_is_c 0) hT
      omega
end R5
end GH

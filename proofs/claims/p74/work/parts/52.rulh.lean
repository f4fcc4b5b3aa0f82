section GH
variable {g : Int} {K : r_K}
def r_pl (t : b_T) (d : Int) : b_T := b_ad (b_c d) 6 t
theorem r_pl_ok {v : List Int} {t : b_T} {k : Nat} {d : Nat} (h : b_is v t (k : Int)) : b_is v (r_pl t d) ((d + 6 * k : Nat) : Int) := by
  have := b_is_ad (k := 6) (b_is_c (d : Int)) h
  rw [show ((d : Int) + 6 * (k : Int)) = ((d + 6 * k : Nat) : Int) by omega] at this
  exact this
/-- homes traded: the first write, the second -/
def r_stT (E : b_E) (c : Nat) (x : b_T) (e : b_N) : List b_Q := match decide (c = 94 ∧ e.1 = false) with
  | false => []
  | true => (match r_has E 0 with
    | true => E.2.2.2.2.flatMap (fun u => match decide (u.1 = 21), u.2, b_fm E 94 x with
      | true, [a], some hc => if r_pl a 7 = x then E.2.2.2.2.filterMap (fun w => match decide (w.1 = 21), w.2 with
        | true, [b] => if b_fm E 94 (r_pl b 7) = some e.2 then some (20, [a, b, hc]) else none
        | _, _ => none) else []
      | _, _, _ => [])
    | false => []) ++ E.2.2.2.2.filterMap (fun u => match decide (u.1 = 20), u.2 with
      | true, [_, b, hc] => if r_pl b 7 = x ∧ hc = e.2 then some (0, []) else none
      | _, _ => none)
section RULT
variable {v : List Int} {E : b_E} {m m1 : q_M} {c j : Nat} {x : b_T} {e : b_N}
theorem r_stT_ok (hE : bg_E (r_F K g) v E m) (hx : b_is v x (j : Int)) (hm : ∀ d k, ¬ (d = c ∧ k = j) → q_at m1 d k = q_at m d k) (he : bg_n v e (q_at m1 c j)) : ∀ t ∈ r_stT E c x e, bg_Q (r_F K g) v m1 t := by
  intro t ht
  unfold r_stT at ht
  split at ht
  · cases ht
  rename_i hd
  obtain ⟨rfl, hlg⟩ := of_decide_eq_true hd
  have hq : ∀ k, k ≠ j → q_i m1 94 k = q_i m 94 k := fun k hk => q_i_eq (hm 94 k (fun q => hk q.2))
  have hev : b_is v e.2 (q_i m1 94 j) := by
    obtain ⟨lg, e0⟩ := e
    simp only at hlg
    subst hlg
    obtain ⟨w, w1, w2⟩ := he
    unfold q_i
    rw [w1]
    exact w2
  rcases List.mem_append.mp ht with ht | ht
  · split at ht
    rotate_left
    · cases ht
    rename_i hJ
    have hJ := r_has_ok hE hJ
    obtain ⟨u, hu, ht⟩ := List.mem_flatMap.mp ht
    split at ht
    rotate_left
    · cases ht
    rename_i a hc h21 hu2 hfm
    split at ht
    rotate_left
    · cases ht
    rename_i hxa
    obtain ⟨w, hw, ht⟩ := List.mem_filterMap.mp ht
    split at ht
    rotate_left
    · cases ht
    rename_i b h21b hw2
    split at ht
    rotate_left
    · cases ht
    rename_i hfb
    cases ht
    obtain ⟨z, z1, z2⟩ := r_tok1 hE hu hu2
    rw [of_decide_eq_true h21] at z2
    obtain ⟨y, y1, y2⟩ := r_tok1 hE hw hw2
    rw [of_decide_eq_true h21b] at y2
    obtain ⟨z3, z4, z5⟩ : 0 ≤ z ∧ z < 20 ∧ z < q_i m 94 3 := z2
    obtain ⟨y3, y4, y5⟩ : 0 ≤ y ∧ y < 20 ∧ y < q_i m 94 3 := y2
    obtain ⟨cn, rfl⟩ : ∃ n : Nat, z = n := ⟨z.toNat, by omega⟩
    obtain ⟨k, rfl⟩ : ∃ n : Nat, y = n := ⟨y.toNat, by omega⟩
    have ej : j = 7 + 6 * cn := by
      rw [← hxa] at hx
      have := b_is_uniq hx (r_pl_ok (d := 7) z1)
      omega
    obtain ⟨-, hcv⟩ := b_fm_ok hE hfm hx
    obtain ⟨-, hbv⟩ := b_fm_ok hE hfb (r_pl_ok (d := 7) y1)
    have e1 : q_i m1 94 j = q_i m 94 (7 + 6 * k) := b_is_uniq hev hbv
    refine ⟨[(cn : Int), (k : Int), q_i m 94 j], ⟨z1, y1, hcv, trivial⟩, ?_⟩
    show ∃ cn' k' : Nat, (cn : Int) = cn' ∧ (k : Int) = k' ∧ cn' < 20 ∧ k' < 20 ∧ (cn : Int) < q_i m1 94 3 ∧ (k : Int) < q_i m1 94 3 ∧ r_home m1 94 0 cn' = r_home m1 94 0 k' ∧ r_blk (q_i m1 94 3) (q_i m1 94 2) (r_up (r_home m1 94 0) cn' (q_i m 94 j))
    rw [hq 3 (by omega), hq 2 (by omega)]
    refine ⟨cn, k, rfl, rfl, by omega, by omega, z5, y5, ?_, ?_⟩
    · by_cases hk : k = cn
      · rw [hk]
      · unfold r_home
        rw [show 0 + 7 + 6 * cn = j by omega, e1, hq (0 + 7 + 6 * k) (by omega), Nat.zero_add]
    · have hJ2 : r_blk (q_i m 94 3) (q_i m 94 2) (r_home m 94 0) := hJ
      refine r_blk_congr (fun i hi => ?_) hJ2
      unfold r_up r_home
      split
      · rename_i hic
        subst hic
        rw [show 0 + 7 + 6 * i = j by omega]
      · rw [hq (0 + 7 + 6 * i) (by omega)]
  · obtain ⟨u, hu, ht⟩ := List.mem_filterMap.mp ht
    split at ht
    rotate_left
    · cases ht
    rename_i a b hc h20 hu2
    split at ht
    rotate_left
    · cases ht
    rename_i hcond
    cases ht
    obtain ⟨z, y, w, z1, y1, w1, hF⟩ := r_tok3 hE hu hu2
    rw [of_decide_eq_true h20] at hF
    obtain ⟨cn, k, rfl, rfl, a1, a2, a3, a4, a5, a6⟩ : ∃ cn k : Nat, z = cn ∧ y = k ∧ cn < 20 ∧ k < 20 ∧ z < q_i m 94 3 ∧ y < q_i m 94 3 ∧ r_home m 94 0 cn = r_home m 94 0 k ∧ r_blk (q_i m 94 3) (q_i m 94 2) (r_up (r_home m 94 0) cn w) := hF
    have ej : j = 7 + 6 * k := by
      rw [← hcond.1] at hx
      have := b_is_uniq hx (r_pl_ok (d := 7) y1)
      omega
    rw [hcond.2] at w1
    have ew : q_i m1 94 j = w := b_is_uniq hev w1
    refine ⟨[], trivial, ?_⟩
    show r_blk (q_i m1 94 3) (q_i m1 94 2) (r_home m1 94 0)
    rw [hq 3 (by omega), hq 2 (by omega)]
    refine r_blk_congr (fun i hi => ?_) (r_swap a1 a2 a3 a4 a5 a6)
    unfold r_up r_home
    split
    · rename_i hic
      subst hic
      rw [show 0 + 7 + 6 * i = j by omega, ew]
    · rw [hq (0 + 7 + 6 * i) (by omega)]
end RULT
/-- evidence that the child at t is a scholar, that it is none of a house h -/
def r_yes (E : b_E) (t : b_T) : Bool := match b_fm E 94 (r_pl t 11), b_fm E 94 (r_pl t 12), b_fm E 94 (r_pl t 9), b_fm E 94 (b_c 0), b_fm E 94 (b_c 1) with
  | some d, some w, some a, some f, some o => b_eqv E d (b_c 0) && b_eqv E w (b_c 0) && r_ge E a f 0 && r_ge E o a 0
  | _, _, _, _, _ => false
def r_nz (E : b_E) (o : Option b_T) (h : b_T) : Bool := match o with
  | some e => r_ge E e h 1 || r_ge E h e 1
  | none => false
def r_no (E : b_E) (h t : b_T) : Bool := r_nz E (b_fm E 94 (r_pl t 7)) h || r_nz E (b_fm E 94 (r_pl t 11)) (b_c 0) || r_nz E (b_fm E 94 (r_pl t 12)) (b_c 0)
  || (match b_fm E 94 (r_pl t 9), b_fm E 94 (b_c 0) with | some a, some f => r_ge E f a 1 | _, _ => false)
  || (match b_fm E 94 (r_pl t 9), b_fm E 94 (b_c 1) with | some a, some o => r_ge E a o 1 | _, _ => false)
/-- t is a child: 0 ≤ t < 20, t < N -/
def r_chd (E : b_E) (t : b_T) : Bool := match b_fm E 94 (b_c 3) with
  | some n => r_ge E t (b_c 0) 0 && r_ge E (b_c 19) t 0 && r_ge E n t 1
  | none => false
section RULH
variable {v : List Int} {E : b_E} {m : q_M}
theorem r_cst (hE : bg_E (r_F K g) v E m) {c : Nat} {d : Nat} {e : b_T} (h : b_fm E c (b_c (d : Int)) = some e) : b_is v e (q_i m c d) := (b_fm_ok hE h (b_is_c _)).2
theorem r_yes_ok (hE : bg_E (r_F K g) v E m) {t : b_T} {k : Nat} (h : r_yes E t = true) (ht : b_is v t (k : Int)) : r_sch m k := by
  unfold r_yes at h
  split at h
  rotate_left
  · cases h
  rename_i d w a f o h1 h2 h3 h4 h5
  simp only [Bool.and_eq_true] at h
  have k1 := (b_fm_ok hE h1 (r_pl_ok (d := 11) ht)).2
  have k2 := (b_fm_ok hE h2 (r_pl_ok (d := 12) ht)).2
  have k3 := (b_fm_ok hE h3 (r_pl_ok (d := 9) ht)).2
  have k4 := r_cst hE (d := 0) h4
  have k5 := r_cst hE (d := 1) h5
  have c1 := b_eqv_ok hE h.1.1.1 k1 (b_is_c 0)
  have c2 := b_eqv_ok hE h.1.1.2 k2 (b_is_c 0)
  have c3 := r_ge_ok hE h.1.2 k3 k4
  have c4 := r_ge_ok hE h.2 k5 k3
  exact ⟨c1, c2, by omega, by omega⟩
theorem r_nz_ok (hE : bg_E (r_F K g) v E m) {c j : Nat} {p h : b_T} {z : Int} (hn : r_nz E (b_fm E c p) h = true) (hp : b_is v p (j : Int)) (hz : b_is v h z) : q_i m c j ≠ z := by
  unfold r_nz at hn
  split at hn
  · rename_i e he
    have k1 := (b_fm_ok hE he hp).2
    rw [Bool.or_eq_true] at hn
    rcases hn with hn | hn
    · have := r_ge_ok hE hn k1 hz
      omega
    · have := r_ge_ok hE hn hz k1
      omega
  · cases hn
theorem r_no_ok (hE : bg_E (r_F K g) v E m) {h t : b_T} {z : Int} {k : Nat} (hn : r_no E h t = true) (ht : b_is v t (k : Int)) (hz : b_is v h z) : ¬ (r_sch m k ∧ r_home m 94 0 k = z) := by
  rintro ⟨⟨s1, s2, s3, s4⟩, s5⟩
  unfold r_no at hn
  simp only [Bool.or_eq_true] at hn
  rcases hn with (((hn | hn) | hn) | hn) | hn
  · refine r_nz_ok hE hn (r_pl_ok (d := 7) ht) hz ?_
    rw [← s5]
    unfold r_home
    rw [Nat.zero_add]
  · exact r_nz_ok hE hn (r_pl_ok (d := 11) ht) (b_is_c 0) s1
  · exact r_nz_ok hE hn (r_pl_ok (d := 12) ht) (b_is_c 0) s2
  · split at hn
    · rename_i a f ha hf
      have := r_ge_ok hE hn (r_cst hE (d := 0) hf) (b_fm_ok hE ha (r_pl_ok (d := 9) ht)).2
      omega
    · cases hn
  · split at hn
    · rename_i a f ha hf
      have := r_ge_ok hE hn (b_fm_ok hE ha (r_pl_ok (d := 9) ht)).2 (r_cst hE (d := 1) hf)
      omega
    · cases hn
theorem r_chd_ok (hE : bg_E (r_F K g) v E m) {t : b_T} {z : Int} (h : r_chd E t = true) (hz : b_is v t z) : ∃ k : Nat, z = k ∧ k < 20 ∧ (k : Int) < q_i m 94 3 := by
  unfold r_chd at h
  split at h
  · rename_i n hn
    simp only [Bool.and_eq_true] at h
    have c1 := r_ge_ok hE h.1.1 hz (b_is_c 0)
    have c2 := r_ge_ok hE h.1.2 (b_is_c 19) hz
    have c3 := r_ge_ok hE h.2 (r_cst hE (d := 3) hn) hz
    exact ⟨z.toNat, by omega, by omega, by omega⟩
  · cases h
end RULH
end GH

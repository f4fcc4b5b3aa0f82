/-! RULES OF THE MARRIAGES -/
section GH
variable {g : Int} {K : r_K}
def r_st9 (E : b_E) (x w : b_T) : List b_Q := E.2.2.2.2.filterMap (fun u => match Nat.beq u.1 92, Nat.beq u.1 81 with
  | true, _ => (match u.2 with | [t] => if b_eqv E x t = true ∧ b_eqv E w (b_c (-1)) = true then some (92, [r_sft t 1]) else none | _ => none)
  | _, true => (match u.2 with
    | [gg, l] => (match b_fm E 109 x with
      | some o => if b_eqv E w gg = true ∧ r_ge E (b_c (-1)) o 0 = true ∧ r_ge E (b_c 19) x 0 = true then some (86, [gg, x, l]) else none
      | none => none)
    | _ => none)
  | _, _ => none)
def r_st11 (E : b_E) (x w : b_T) : List b_Q := E.2.2.2.2.filterMap (fun u => match Nat.beq u.1 89, Nat.beq u.1 86 with
  | true, _ => (match u.2 with | [t] => if r_has E 88 = true ∧ b_eqv E x (b_c 0) = true ∧ b_eqv E w t = true ∧ r_any E 92 (fun w => match w with | [y] => r_ge E y (b_c 20) 0 | _ => false) = true then some (85, [b_c 1]) else none | _ => none)
  | _, true => (match u.2 with
    | [gg, b, l] => (match b_fm E 108 b with
      | some o => if b_eqv E x l = true ∧ b_eqv E w o = true ∧ r_ge E o (b_c 0) 0 = true ∧ r_ge E (b_c 19) x 0 = true then some (81, [gg, r_sft l 1]) else none
      | none => none)
    | _ => none)
  | _, _ => none)
def r_st8 (E : b_E) (x w : b_T) : List b_Q := E.2.2.2.2.filterMap (fun u => match Nat.beq u.1 82, Nat.beq u.1 90 with
  | true, _ => (match u.2 with
    | [b, r] => (match b_fm E 109 b with
      | some o => if b_eqv E x b = true ∧ b_eqv E w o = true then some (93, [b, w, r]) else none
      | none => none)
    | _ => none)
  | _, true => (match u.2 with | [t] => if b_eqv E x t = true ∧ b_eqv E w (b_c (-1)) = true then some (91, [t]) else none | _ => none)
  | _, _ => none)
def r_st10 (E : b_E) (x w : b_T) : List b_Q := E.2.2.2.2.filterMap (fun u => match Nat.beq u.1 93, Nat.beq u.1 91 with
  | true, _ => (match u.2 with
    | [b, gg, r] => (match b_fm E 110 x with
      | some o => if b_eqv E x gg = true ∧ b_eqv E w b = true then some (82, [o, r_sft r (-1)]) else none
      | none => none)
    | _ => none)
  | _, true => (match u.2 with | [t] => if b_eqv E x t = true ∧ b_eqv E w (b_c (-1)) = true then some (90, [r_sft t 1]) else none | _ => none)
  | _, _ => none)
def r_sto3 (E : b_E) (c : Nat) (x : b_T) (e : b_N) : List b_Q := match e with
  | (false, w) => (match Nat.beq c 109, Nat.beq c 111, Nat.beq c 108, Nat.beq c 110 with
    | true, _, _, _ => r_st9 E x w
    | _, true, _, _ => r_st11 E x w
    | _, _, true, _ => r_st8 E x w
    | _, _, _, true => r_st10 E x w
    | _, _, _, _ => [])
  | _ => []
def r_hav3 (E : b_E) (id : Nat) (us : List b_T) : Bool := match id, us with
  | 80, [x] => r_any E 80 (fun w => match w with | [y] => r_ge E x y 0 | _ => false) || r_any E 90 (fun w => match w with | [y] => r_ge E y (b_c 20) 0 | _ => false)
  | 81, [gg, l] => r_any E 85 (fun w => match w with | [y] => b_eqv E y l | _ => false) && E.2.2.2.1.any (fun o => Nat.beq o.1 111 && (match o.2.2 with | (false, e) => b_eqv E e gg && r_ge E l o.2.1 1 && r_ge E (b_c 19) o.2.1 0 | _ => false))
  | 85, [l] => r_any E 81 (fun w => match w with | [_, y] => b_eqv E y l | _ => false)
  | 82, [b, r] => r_ge E r (b_c 50) 0 && r_any E 86 (fun w => match w with | [_, y, _] => b_eqv E y b | _ => false)
  | 87, [] => r_any E 85 (fun w => match w with | [_] => true | _ => false) || r_any E 81 (fun w => match w with | [_, _] => true | _ => false) || r_any E 82 (fun w => match w with | [b, _] => r_ge E (b_c (-1)) b 0 | _ => false)
  | 90, [c] => r_ge E (b_c 0) c 0
  | 92, [c] => r_ge E (b_c 0) c 0
  | _, _ => false
def r_imp3 (E : b_E) : Bool := r_any E 86 (fun w => match w with
    | [_, b, l] => (match b_fm E 108 b with | some o => r_ge E o (b_c 0) 0 && r_ge E l (b_c 20) 0 | none => false)
    | _ => false)
  || r_any E 82 (fun w => match w with | [b, r] => r_ge E b (b_c 0) 0 && r_ge E (b_c 0) r 0 | _ => false)
/-- one who is on the way back was asked -/
def r_rdi (E : b_E) (a : Nat) (x : b_T) : Option (Int × Int) := match Nat.beq a 109 with
  | true => if r_any E 82 (fun w => match w with | [b, _] => b_eqv E x b | _ => false) = true then some (0, 19) else none
  | false => none
theorem r_kd3_F {id : Nat} {zs : List Int} {m : q_M} (h : r_kd3 id = true) : r_F K g id zs m = r_F3 g id zs m := by
  unfold r_kd3 at h
  split at h <;> first | rfl | (cases h; done)
section S3
variable {v : List Int} {E : b_E} {m m1 : q_M} {I : List b_I} {j : Nat} {x w : b_T}
theorem r_st9_ok (hE : bg_E (r_F K g) v E m) (hx : b_is v x (j : Int)) (hm : ∀ d k, ¬ (d = 109 ∧ k = j) → q_at m1 d k = q_at m d k) (he : b_is v w (q_i m1 109 j)) : ∀ t ∈ r_st9 E x w, bg_Q (r_F K g) v m1 t := by
  intro t ht
  have o8 : q_i m1 108 = q_i m 108 := funext fun k => q_i_eq (hm 108 k (fun q => absurd q.1 (by decide)))
  have o10 : q_i m1 110 = q_i m 110 := funext fun k => q_i_eq (hm 110 k (fun q => absurd q.1 (by decide)))
  have o11 : q_i m1 111 = q_i m 111 := funext fun k => q_i_eq (hm 111 k (fun q => absurd q.1 (by decide)))
  have o9 : ∀ k, k ≠ j → q_i m1 109 k = q_i m 109 k := fun k hk => q_i_eq (hm 109 k (fun q => hk q.2))
  obtain ⟨u, hu, h1⟩ := List.mem_filterMap.mp ht
  split at h1
  · have hid : u.1 = 92 := Nat.eq_of_beq_eq_true (by assumption)
    split at h1
    rotate_left
    · cases h1
    rename_i t0 hu2
    split at h1
    rotate_left
    · cases h1
    rename_i hc
    cases h1
    obtain ⟨z, z1, z2⟩ := r_tok1 hE hu hu2
    rw [hid] at z2
    have z2 : ∀ k : Nat, k < 20 → (k : Int) < z → q_i m 109 k = -1 := z2
    have c1 := b_eqv_ok hE hc.1 hx z1
    have c2 := b_eqv_ok hE hc.2 he (b_is_c (-1))
    refine ⟨[z + 1], ⟨r_sft_ok z1, trivial⟩, ?_⟩
    show ∀ k : Nat, k < 20 → (k : Int) < z + 1 → q_i m1 109 k = -1
    intro k k1 k2
    by_cases e : k = j
    · rw [e]
      exact c2
    · rw [o9 k e]
      exact z2 k k1 (by omega)
  · have hid : u.1 = 81 := Nat.eq_of_beq_eq_true (by assumption)
    split at h1
    rotate_left
    · cases h1
    rename_i gg l hu2
    split at h1
    rotate_left
    · cases h1
    rename_i o ho
    split at h1
    rotate_left
    · cases h1
    rename_i hc
    cases h1
    obtain ⟨a, b, a1, b1, ab⟩ := r_tok2 hE hu hu2
    rw [hid] at ab
    obtain ⟨ab, hl⟩ : z_bf (q_i m 108) (q_i m 109) (q_i m 110) (q_i m 111) g b 0 (fun rk => ∃ k : Nat, k < 20 ∧ a = k ∧ rk k) ∧ b ≤ 1 + z_cg (q_i m 109) (q_i m 110) 20 := ab
    have c1 := b_eqv_ok hE hc.1 he a1
    have hO := (b_fm_ok hE ho hx).2
    have c2 := r_ge_ok hE hc.2.1 (b_is_c (-1)) hO
    have c3 := r_ge_ok hE hc.2.2 (b_is_c 19) hx
    obtain ⟨k, hk, hak⟩ : ∃ k : Nat, k < 20 ∧ a = k := by
      obtain ⟨-, -, -, -, rb, rg, rk, T, -, -, -, -, -, k, k1, k2, -⟩ := ab
      exact ⟨k, k1, k2⟩
    subst hak
    obtain ⟨r1, r2⟩ := z_ask (by omega : j < 20) hk (by omega) ab hl
    have eu : q_i m1 109 = z_up (q_i m 109) j k := by
      funext i
      by_cases e : i = j
      · subst e
        rw [z_up_eq]
        exact c1
      · rw [z_up_ne e]
        exact o9 i e
    refine ⟨[(k : Int), (j : Int), b], ⟨a1, hx, b1, trivial⟩, ?_⟩
    show z_bf (q_i m1 108) (q_i m1 109) (q_i m1 110) (q_i m1 111) g b 1 (fun rk => ∃ i : Nat, i < 20 ∧ (k : Int) = i ∧ rk i) ∧ ∃ n : Nat, n < 20 ∧ (j : Int) = n ∧ 0 ≤ q_i m1 109 n ∧ (0 ≤ q_i m1 108 n → b ≤ z_cg (q_i m1 109) (q_i m1 110) 20) ∧ ∀ k : Nat, k < 20 → q_i m1 110 k = n → True
    rw [eu, o8, o10, o11]
    exact ⟨r1, j, by omega, rfl, by rw [z_up_eq]; omega, r2, fun _ _ _ => trivial⟩
  · cases h1
theorem r_st8_ok (hE : bg_E (r_F K g) v E m) (hx : b_is v x (j : Int)) (hm : ∀ d k, ¬ (d = 108 ∧ k = j) → q_at m1 d k = q_at m d k) (he : b_is v w (q_i m1 108 j)) (hx0 : 0 ≤ (j : Int)) : ∀ t ∈ r_st8 E x w, bg_Q (r_F K g) v m1 t := by
  intro t ht
  have o9 : q_i m1 109 = q_i m 109 := funext fun k => q_i_eq (hm 109 k (fun q => absurd q.1 (by decide)))
  have o10 : q_i m1 110 = q_i m 110 := funext fun k => q_i_eq (hm 110 k (fun q => absurd q.1 (by decide)))
  have o8 : ∀ k, k ≠ j → q_i m1 108 k = q_i m 108 k := fun k hk => q_i_eq (hm 108 k (fun q => hk q.2))
  obtain ⟨u, hu, h1⟩ := List.mem_filterMap.mp ht
  split at h1
  · have hid : u.1 = 82 := Nat.eq_of_beq_eq_true (by assumption)
    split at h1
    rotate_left
    · cases h1
    rename_i b r hu2
    split at h1
    rotate_left
    · cases h1
    rename_i o ho
    split at h1
    rotate_left
    · cases h1
    rename_i hc
    cases h1
    obtain ⟨bv, rv, b1, r1, br⟩ := r_tok2 hE hu hu2
    rw [hid] at br
    obtain ⟨i1, i2, i3, i4⟩ : z_inv (q_i m 108) (q_i m 110) bv ∧ (∀ k : Nat, k < 20 → g < k → q_i m 110 k = -1) ∧ (∀ k : Nat, k < 20 → -1 ≤ q_i m 110 k ∧ q_i m 110 k < 20)
      ∧ (0 ≤ bv → ∃ (n : Nat) (rb rg : Nat → Nat) (rk : Nat → Prop), bv = n ∧ n < 20 ∧ (∃ k : Nat, k < 20 ∧ q_i m 109 n = k) ∧ (∀ j : Nat, j < 20 → q_i m 109 j < 20) ∧ z_rk (q_i m 109) (q_i m 110) g rb rg rk (rb n) ∧ (rb n : Int) ≤ rv) := br
    have c1 := b_eqv_ok hE hc.1 hx b1
    obtain ⟨n, rb, rg, rk, n1, n2, ⟨k, k1, k2⟩, n3, n4, n5⟩ := i4 (by omega)
    have ej : n = j := by omega
    subst ej
    rw [n1] at b1
    have hO := (b_fm_ok hE ho b1).2
    have c2 := b_eqv_ok hE hc.2 he hO
    refine ⟨[(n : Int), q_i m1 108 n, rv], ⟨b1, he, r1, trivial⟩, ?_⟩
    refine ⟨n, k, n2, k1, rfl, by omega, by omega, by rw [o9]; exact k2, ?_, by rw [o10]; exact i2, by rw [o10]; exact i3, by rw [o9]; exact n3, rb, rg, rk, by rw [o9, o10]; exact n4, n5⟩
    intro b hb hne i hi hw
    rw [o8 b (by omega)] at hw
    rw [o10]
    exact i1 b hb (by omega) i hi hw
  · have hid : u.1 = 90 := Nat.eq_of_beq_eq_true (by assumption)
    split at h1
    rotate_left
    · cases h1
    rename_i t0 hu2
    split at h1
    rotate_left
    · cases h1
    rename_i hc
    cases h1
    obtain ⟨z, z1, z2⟩ := r_tok1 hE hu hu2
    rw [hid] at z2
    have z2 : ∀ k : Nat, k < 20 → (k : Int) < z → q_i m 108 k = -1 ∧ q_i m 110 k = -1 := z2
    have c1 := b_eqv_ok hE hc.1 hx z1
    have c2 := b_eqv_ok hE hc.2 he (b_is_c (-1))
    refine ⟨[z], ⟨z1, trivial⟩, ?_⟩
    show (∀ k : Nat, k < 20 → (k : Int) < z → q_i m1 108 k = -1 ∧ q_i m1 110 k = -1) ∧ ∀ k : Nat, k < 20 → (k : Int) = z → q_i m1 108 k = -1
    refine ⟨fun k k1 k2 => ?_, fun k k1 k2 => ?_⟩
    · rw [o8 k (by omega), o10]
      exact z2 k k1 k2
    · have : k = j := by omega
      rw [this]
      exact c2
  · cases h1
theorem r_st10_ok (hE : bg_E (r_F K g) v E m) (hx : b_is v x (j : Int)) (hb1 : ∀ k : Nat, k < 20 → -1 ≤ q_i m1 110 k ∧ q_i m1 110 k ≤ 19) (hm : ∀ d k, ¬ (d = 110 ∧ k = j) → q_at m1 d k = q_at m d k) (he : b_is v w (q_i m1 110 j)) : ∀ t ∈ r_st10 E x w, bg_Q (r_F K g) v m1 t := by
  intro t ht
  have o9 : q_i m1 109 = q_i m 109 := funext fun k => q_i_eq (hm 109 k (fun q => absurd q.1 (by decide)))
  have o8 : q_i m1 108 = q_i m 108 := funext fun k => q_i_eq (hm 108 k (fun q => absurd q.1 (by decide)))
  have o10 : ∀ k, k ≠ j → q_i m1 110 k = q_i m 110 k := fun k hk => q_i_eq (hm 110 k (fun q => hk q.2))
  obtain ⟨u, hu, h1⟩ := List.mem_filterMap.mp ht
  split at h1
  · have hid : u.1 = 93 := Nat.eq_of_beq_eq_true (by assumption)
    split at h1
    rotate_left
    · cases h1
    rename_i b gg r hu2
    split at h1
    rotate_left
    · cases h1
    rename_i o ho
    split at h1
    rotate_left
    · cases h1
    rename_i hc
    cases h1
    obtain ⟨bv, gv, rv, b1, g1, r1, br⟩ := r_tok3 hE hu hu2
    rw [hid] at br
    obtain ⟨n, k, n1, k1, n2, k2, w1, a1, i1, i2, i3, i4, rb, rg, rk, i5, i6⟩ : ∃ n k : Nat, n < 20 ∧ k < 20 ∧ bv = n ∧ gv = k ∧ q_i m 108 n = k ∧ q_i m 109 n = k ∧ z_inv (q_i m 108) (q_i m 110) bv ∧ (∀ k : Nat, k < 20 → g < k → q_i m 110 k = -1) ∧ (∀ k : Nat, k < 20 → -1 ≤ q_i m 110 k ∧ q_i m 110 k < 20)
      ∧ (∀ j : Nat, j < 20 → q_i m 109 j < 20) ∧ ∃ (rb rg : Nat → Nat) (rk : Nat → Prop), z_rk (q_i m 109) (q_i m 110) g rb rg rk (rb n) ∧ (rb n : Int) ≤ rv := br
    have c1 := b_eqv_ok hE hc.1 hx g1
    have c2 := b_eqv_ok hE hc.2 he b1
    have ej : k = j := by omega
    subst ej
    have hO := (b_fm_ok hE ho hx).2
    have eu : q_i m1 110 = z_up (q_i m 110) k n := by
      funext i
      by_cases e : i = k
      · subst e
        rw [z_up_eq]
        omega
      · rw [z_up_ne e]
        exact o10 i e
    rw [n2] at i1
    obtain ⟨s1, s2, s3⟩ := z_lead n1 k1 w1 a1 i1 i2 i3 i4 i5 i6
    refine ⟨[q_i m 110 k, rv + -1], ⟨hO, r_sft_ok r1, trivial⟩, ?_⟩
    show z_inv (q_i m1 108) (q_i m1 110) (q_i m 110 k) ∧ (∀ k : Nat, k < 20 → g < k → q_i m1 110 k = -1) ∧ (∀ k : Nat, k < 20 → -1 ≤ q_i m1 110 k ∧ q_i m1 110 k < 20)
      ∧ (0 ≤ q_i m 110 k → ∃ (n : Nat) (rb rg : Nat → Nat) (rk : Nat → Prop), q_i m 110 k = n ∧ n < 20 ∧ (∃ k : Nat, k < 20 ∧ q_i m1 109 n = k) ∧ (∀ j : Nat, j < 20 → q_i m1 109 j < 20) ∧ z_rk (q_i m1 109) (q_i m1 110) g rb rg rk (rb n) ∧ (rb n : Int) ≤ rv + -1)
    refine ⟨by rw [o8, eu]; exact s1, by rw [eu]; exact s2, fun i hi => by have := hb1 i hi; omega, fun h0 => ?_⟩
    obtain ⟨n', rb', rg', rk', t1, t2, t3, t4, t5⟩ := s3 h0
    exact ⟨n', rb', rg', rk', t1, t2, by rw [o9]; exact t3, by rw [o9]; exact i4, by rw [o9, eu]; exact t4, by omega⟩
  · have hid : u.1 = 91 := Nat.eq_of_beq_eq_true (by assumption)
    split at h1
    rotate_left
    · cases h1
    rename_i t0 hu2
    split at h1
    rotate_left
    · cases h1
    rename_i hc
    cases h1
    obtain ⟨z, z1, z2⟩ := r_tok1 hE hu hu2
    rw [hid] at z2
    obtain ⟨z2, z3⟩ : (∀ k : Nat, k < 20 → (k : Int) < z → q_i m 108 k = -1 ∧ q_i m 110 k = -1) ∧ ∀ k : Nat, k < 20 → (k : Int) = z → q_i m 108 k = -1 := z2
    have c1 := b_eqv_ok hE hc.1 hx z1
    have c2 := b_eqv_ok hE hc.2 he (b_is_c (-1))
    refine ⟨[z + 1], ⟨r_sft_ok z1, trivial⟩, ?_⟩
    show ∀ k : Nat, k < 20 → (k : Int) < z + 1 → q_i m1 108 k = -1 ∧ q_i m1 110 k = -1
    intro k k1 k2
    rw [o8]
    by_cases e : k = j
    · subst e
      exact ⟨z3 k k1 (by omega), c2⟩
    · rw [o10 k e]
      exact z2 k k1 (by omega)
  · cases h1
theorem r_st11_ok (hE : bg_E (r_F K g) v E m) (hx : b_is v x (j : Int)) (b8 : ∀ k : Nat, k < 20 → -1 ≤ q_i m 108 k ∧ q_i m 108 k ≤ 19) (b10 : ∀ k : Nat, k < 20 → -1 ≤ q_i m 110 k ∧ q_i m 110 k ≤ 19) (hm : ∀ d k, ¬ (d = 111 ∧ k = j) → q_at m1 d k = q_at m d k) (he : b_is v w (q_i m1 111 j)) : ∀ t ∈ r_st11 E x w, bg_Q (r_F K g) v m1 t := by
  intro t ht
  have o8 : q_i m1 108 = q_i m 108 := funext fun k => q_i_eq (hm 108 k (fun q => absurd q.1 (by decide)))
  have o9 : q_i m1 109 = q_i m 109 := funext fun k => q_i_eq (hm 109 k (fun q => absurd q.1 (by decide)))
  have o10 : q_i m1 110 = q_i m 110 := funext fun k => q_i_eq (hm 110 k (fun q => absurd q.1 (by decide)))
  have o11 : ∀ k, k ≠ j → q_i m1 111 k = q_i m 111 k := fun k hk => q_i_eq (hm 111 k (fun q => hk q.2))
  obtain ⟨u, hu, h1⟩ := List.mem_filterMap.mp ht
  split at h1
  · have hid : u.1 = 89 := Nat.eq_of_beq_eq_true (by assumption)
    split at h1
    rotate_left
    · cases h1
    rename_i t0 hu2
    split at h1
    rotate_left
    · cases h1
    rename_i hc
    cases h1
    obtain ⟨z, z1, z2⟩ := r_tok1 hE hu hu2
    rw [hid] at z2
    obtain ⟨rfl, g0, g20⟩ : z = g ∧ 0 ≤ g ∧ g < 20 := z2
    obtain ⟨h8, h80⟩ : z_inv (q_i m 108) (q_i m 110) (-1) ∧ ∀ k : Nat, k < 20 → z ≤ k → q_i m 110 k = -1 := r_has_ok hE hc.1
    have c1 := b_eqv_ok hE hc.2.1 hx (b_is_c 0)
    have c2 := b_eqv_ok hE hc.2.2.1 he z1
    obtain ⟨u2, hu2', h5, h6⟩ := r_any_ok hc.2.2.2
    split at h6
    rotate_left
    · cases h6
    rename_i y hu3
    obtain ⟨q, q1, q2⟩ := r_tok1 hE hu2' hu3
    rw [h5] at q2
    have q2 : ∀ k : Nat, k < 20 → (k : Int) < q → q_i m 109 k = -1 := q2
    have c3 := r_ge_ok hE h6 q1 (b_is_c 20)
    have hA : ∀ k : Nat, k < 20 → q_i m 109 k = -1 := fun k hk => q2 k hk (by omega)
    refine ⟨[1], ⟨b_is_c 1, trivial⟩, ?_⟩
    show z_bf (q_i m1 108) (q_i m1 109) (q_i m1 110) (q_i m1 111) z 1 0 (fun _ => True) ∧ 1 ≤ 1 + (z_cg (q_i m1 109) (q_i m1 110) 20 : Int)
    rw [o8, o9, o10]
    refine ⟨⟨h8, ⟨g0, g20⟩, h80, ?_, fun _ => 0, fun _ => 0, fun i => (i : Int) = z, 1, ⟨?_, ?_⟩, ?_, ?_, by omega, ?_, trivial⟩, by omega⟩
    · intro b hb
      have := hA b hb
      have := b8 b hb
      have := b10 b hb
      omega
    · intro b hb k hk hA1
      have := hA b hb
      omega
    · intro k hk hkz _
      exact ⟨by omega, Or.inl (h80 k hk (by omega))⟩
    · intro b hb hA1
      have := hA b hb
      omega
    · intro k hk _
      exact Nat.zero_lt_one
    · intro i hi hi1
      have : i = j := by omega
      subst this
      exact ⟨z.toNat, by omega, by omega, by omega⟩
  · have hid : u.1 = 86 := Nat.eq_of_beq_eq_true (by assumption)
    split at h1
    rotate_left
    · cases h1
    rename_i gg b l hu2
    split at h1
    rotate_left
    · cases h1
    rename_i o ho
    split at h1
    rotate_left
    · cases h1
    rename_i hc
    cases h1
    obtain ⟨gv, bv, lv, g1, b1, l1, br⟩ := r_tok3 hE hu hu2
    rw [hid] at br
    obtain ⟨bf, n, n1, n2, n3, n4, -⟩ : z_bf (q_i m 108) (q_i m 109) (q_i m 110) (q_i m 111) g lv 1 (fun rk => ∃ k : Nat, k < 20 ∧ gv = k ∧ rk k) ∧ ∃ n : Nat, n < 20 ∧ bv = n ∧ 0 ≤ q_i m 109 n ∧ (0 ≤ q_i m 108 n → lv ≤ z_cg (q_i m 109) (q_i m 110) 20) ∧ ∀ k : Nat, k < 20 → q_i m 110 k = n → True := br
    rw [n2] at b1
    have hO := (b_fm_ok hE ho b1).2
    have c1 := b_eqv_ok hE hc.1 hx l1
    have c2 := b_eqv_ok hE hc.2.1 he hO
    have c3 := r_ge_ok hE hc.2.2.1 hO (b_is_c 0)
    have c4 := r_ge_ok hE hc.2.2.2 (b_is_c 19) hx
    have hlv := n4 (by omega)
    have hW : q_i m 108 n = ((q_i m 108 n).toNat : Nat) := by omega
    have eu : q_i m1 111 = z_up (q_i m 111) j ((q_i m 108 n).toNat : Nat) := by
      funext i
      by_cases e : i = j
      · subst e
        rw [z_up_eq]
        omega
      · rw [z_up_ne e]
        exact o11 i e
    obtain ⟨s1, s2⟩ := z_push (P := fun rk => ∃ k : Nat, k < 20 ∧ gv = k ∧ rk k) (fun rk rk' hr => fun ⟨k, k1, k2, k3⟩ => ⟨k, k1, k2, hr k k3⟩) n1 c1.symm (by omega) n3 hW bf hlv
    refine ⟨[gv, lv + 1], ⟨g1, r_sft_ok l1, trivial⟩, ?_⟩
    show z_bf (q_i m1 108) (q_i m1 109) (q_i m1 110) (q_i m1 111) g (lv + 1) 0 (fun rk => ∃ k : Nat, k < 20 ∧ gv = k ∧ rk k) ∧ lv + 1 ≤ 1 + (z_cg (q_i m1 109) (q_i m1 110) 20 : Int)
    rw [o8, o9, o10, eu]
    exact ⟨s1, s2⟩
  · cases h1
end S3
theorem r_sto3_ok {v : List Int} {E : b_E} {m m1 : q_M} {I : List b_I} {c j : Nat} {x : b_T} {e : b_N} (hI : r_Iok I) (hM : bi_M I m) (hM1 : bi_M I m1) (hE : bg_E (r_F K g) v E m) (hx : b_is v x (j : Int)) (hm : ∀ d k, ¬ (d = c ∧ k = j) → q_at m1 d k = q_at m d k) (he : bg_n v e (q_at m1 c j)) : ∀ t ∈ r_sto3 E c x e, bg_Q (r_F K g) v m1 t := by
  intro t ht
  unfold r_sto3 at ht
  split at ht
  rotate_left
  · cases ht
  rename_i w
  have hw : b_is v w (q_i m1 c j) := by
    obtain ⟨z, z1, z2⟩ := he
    unfold q_i
    rw [z1]
    exact z2
  split at ht
  · have hc : c = 109 := Nat.eq_of_beq_eq_true (by assumption)
    subst hc
    exact r_st9_ok hE hx hm hw t ht
  · have hc : c = 111 := Nat.eq_of_beq_eq_true (by assumption)
    subst hc
    exact r_st11_ok hE hx (z_bd hI.1 hM) (z_bd hI.2.2.1 hM) hm hw t ht
  · have hc : c = 108 := Nat.eq_of_beq_eq_true (by assumption)
    subst hc
    exact r_st8_ok hE hx hm hw (by omega) t ht
  · have hc : c = 110 := Nat.eq_of_beq_eq_true (by assumption)
    subst hc
    exact r_st10_ok hE hx (z_bd hI.2.2.1 hM1) hm hw t ht
  · cases ht
section H3
variable {v : List Int} {E : b_E} {m : q_M}
theorem r_hav3_ok (hE : bg_E (r_F K g) v E m) {id : Nat} {us : List b_T} {zs : List Int} (hz : g_2 (b_is v) us zs) (h : r_hav3 E id us = true) : r_F K g id zs m := by
  unfold r_hav3 at h
  split at h
  · -- 80
    obtain ⟨y, ys, rfl, hy, h0⟩ := g_ca hz
    have := g_na h0
    subst this
    show z_inv (q_i m 108) (q_i m 110) (-1) ∧ ∀ k : Nat, k < 20 → y ≤ k → q_i m 110 k = -1
    rw [Bool.or_eq_true] at h
    rcases h with h | h
    · obtain ⟨u, hu, h2, h3⟩ := r_any_ok h
      split at h3
      rotate_left
      · cases h3
      rename_i t hu2
      obtain ⟨z, z1, z2⟩ := r_tok1 hE hu hu2
      rw [h2] at z2
      obtain ⟨z2, z3⟩ : z_inv (q_i m 108) (q_i m 110) (-1) ∧ ∀ k : Nat, k < 20 → z ≤ k → q_i m 110 k = -1 := z2
      have := r_ge_ok hE h3 hy z1
      exact ⟨z2, fun k k1 k2 => z3 k k1 (by omega)⟩
    · obtain ⟨u, hu, h2, h3⟩ := r_any_ok h
      split at h3
      rotate_left
      · cases h3
      rename_i t hu2
      obtain ⟨z, z1, z2⟩ := r_tok1 hE hu hu2
      rw [h2] at z2
      have z2 : ∀ k : Nat, k < 20 → (k : Int) < z → q_i m 108 k = -1 ∧ q_i m 110 k = -1 := z2
      have := r_ge_ok hE h3 z1 (b_is_c 20)
      refine ⟨fun b hb _ k hk hw => ?_, fun k k1 _ => (z2 k k1 (by omega)).2⟩
      have := (z2 b hb (by omega)).1
      omega
  · -- 81
    obtain ⟨y, ys, rfl, hy, h0⟩ := g_ca hz
    obtain ⟨y2, ys, rfl, hy2, h0⟩ := g_ca h0
    have := g_na h0
    subst this
    rw [Bool.and_eq_true] at h
    obtain ⟨u, hu, h2, h3⟩ := r_any_ok h.1
    split at h3
    rotate_left
    · cases h3
    rename_i t hu2
    obtain ⟨z, z1, z2⟩ := r_tok1 hE hu hu2
    rw [h2] at z2
    obtain ⟨⟨f1, f2, f3, f4, rb, rg, rk, T, f5, f6, f7, f8, f9, -⟩, hl⟩ : z_bf (q_i m 108) (q_i m 109) (q_i m 110) (q_i m 111) g z 0 (fun _ => True) ∧ z ≤ 1 + z_cg (q_i m 109) (q_i m 110) 20 := z2
    have ez := b_eqv_ok hE h3 z1 hy2
    subst ez
    obtain ⟨o, ho, h4⟩ := List.any_eq_true.mp h.2
    rw [Bool.and_eq_true] at h4
    obtain ⟨h41, h42⟩ := h4
    have h41 := Nat.eq_of_beq_eq_true h41
    split at h42
    rotate_left
    · cases h42
    rename_i e heq
    simp only [Bool.and_eq_true] at h42
    obtain ⟨k, k1, k2⟩ := hE.2.2.2.1 o ho
    rw [heq, h41] at k2
    obtain ⟨w, w1, w2⟩ := k2
    have eq1 : q_i m 111 k = w.toInt := by
      unfold q_i
      rw [w1]
    have c1 := b_eqv_ok hE h42.1.1 w2 hy
    have c2 := r_ge_ok hE h42.1.2 hy2 k1
    have c3 := r_ge_ok hE h42.2 (b_is_c 19) k1
    obtain ⟨i, i1, i2, i3⟩ := f9 k (by omega) (by omega)
    exact ⟨⟨f1, f2, f3, f4, rb, rg, rk, T, f5, f6, f7, f8, f9, i, i1, by omega, i3⟩, hl⟩
  · -- 85
    obtain ⟨y, ys, rfl, hy, h0⟩ := g_ca hz
    have := g_na h0
    subst this
    obtain ⟨u, hu, h2, h3⟩ := r_any_ok h
    split at h3
    rotate_left
    · cases h3
    rename_i t1 t hu2
    obtain ⟨z, z', z1, z1', z2⟩ := r_tok2 hE hu hu2
    rw [h2] at z2
    obtain ⟨⟨f1, f2, f3, f4, rb, rg, rk, T, f5, f6, f7, f8, f9, -⟩, hl⟩ : z_bf (q_i m 108) (q_i m 109) (q_i m 110) (q_i m 111) g z' 0 (fun rk => ∃ k : Nat, k < 20 ∧ z = k ∧ rk k) ∧ z' ≤ 1 + z_cg (q_i m 109) (q_i m 110) 20 := z2
    have ez := b_eqv_ok hE h3 z1' hy
    subst ez
    exact ⟨⟨f1, f2, f3, f4, rb, rg, rk, T, f5, f6, f7, f8, f9, trivial⟩, hl⟩
  · -- 82
    obtain ⟨y, ys, rfl, hy, h0⟩ := g_ca hz
    obtain ⟨y2, ys, rfl, hy2, h0⟩ := g_ca h0
    have := g_na h0
    subst this
    rw [Bool.and_eq_true] at h
    have c0 := r_ge_ok hE h.1 hy2 (b_is_c 50)
    obtain ⟨u, hu, h2, h3⟩ := r_any_ok h.2
    split at h3
    rotate_left
    · cases h3
    rename_i t1 t t2 hu2
    obtain ⟨gv, bv, lv, g1, b1, l1, br⟩ := r_tok3 hE hu hu2
    rw [h2] at br
    obtain ⟨⟨f1, f2, f3, f4, rb, rg, rk, T, f5, f6, f7, f8, f9, -⟩, n, n1, n2, n3, -, -⟩ : z_bf (q_i m 108) (q_i m 109) (q_i m 110) (q_i m 111) g lv 1 (fun rk => ∃ k : Nat, k < 20 ∧ gv = k ∧ rk k) ∧ ∃ n : Nat, n < 20 ∧ bv = n ∧ 0 ≤ q_i m 109 n ∧ (0 ≤ q_i m 108 n → lv ≤ z_cg (q_i m 109) (q_i m 110) 20) ∧ ∀ k : Nat, k < 20 → q_i m 110 k = n → True := br
    have ez := b_eqv_ok hE h3 b1 hy
    subst ez
    have hca := z_ca_le (A := q_i m 109) 20
    have hrb := f6 n n1 n3
    refine ⟨fun b hb _ => f1 b hb (by omega), fun k k1 k2 => f3 k k1 (by omega), fun k k1 => ?_, fun _ => ⟨n, rb, rg, rk, n2, n1, ⟨(q_i m 109 n).toNat, ?_, ?_⟩, fun i hi => (f4 i hi).2.1, ⟨f5.1, fun k k1 k2 k3 => f5.2 k k1 k2 (by omega)⟩, by omega⟩⟩
    · have := f4 k k1
      omega
    · have := f4 n n1
      omega
    · omega
  · -- 87
    have := g_na hz
    subst this
    show z_inv (q_i m 108) (q_i m 110) (-1) ∧ ∀ k : Nat, k < 20 → g < k → q_i m 110 k = -1
    rw [Bool.or_eq_true, Bool.or_eq_true] at h
    rcases h with (h | h) | h
    · obtain ⟨u, hu, h2, h3⟩ := r_any_ok h
      split at h3
      rotate_left
      · cases h3
      rename_i t hu2
      obtain ⟨z, z1, z2⟩ := r_tok1 hE hu hu2
      rw [h2] at z2
      obtain ⟨⟨f1, f2, f3, -⟩, -⟩ : z_bf (q_i m 108) (q_i m 109) (q_i m 110) (q_i m 111) g z 0 (fun _ => True) ∧ z ≤ 1 + z_cg (q_i m 109) (q_i m 110) 20 := z2
      exact ⟨f1, fun k k1 k2 => f3 k k1 (by omega)⟩
    · obtain ⟨u, hu, h2, h3⟩ := r_any_ok h
      split at h3
      rotate_left
      · cases h3
      rename_i t1 t hu2
      obtain ⟨z, z', z1, z1', z2⟩ := r_tok2 hE hu hu2
      rw [h2] at z2
      obtain ⟨⟨f1, f2, f3, -⟩, -⟩ : z_bf (q_i m 108) (q_i m 109) (q_i m 110) (q_i m 111) g z' 0 (fun rk => ∃ k : Nat, k < 20 ∧ z = k ∧ rk k) ∧ z' ≤ 1 + z_cg (q_i m 109) (q_i m 110) 20 := z2
      exact ⟨f1, fun k k1 k2 => f3 k k1 (by omega)⟩
    · obtain ⟨u, hu, h2, h3⟩ := r_any_ok h
      split at h3
      rotate_left
      · cases h3
      rename_i t1 t hu2
      obtain ⟨z, z', z1, z1', z2⟩ := r_tok2 hE hu hu2
      rw [h2] at z2
      obtain ⟨f1, f2, -⟩ : z_inv (q_i m 108) (q_i m 110) z ∧ (∀ k : Nat, k < 20 → g < k → q_i m 110 k = -1) ∧ _ := z2
      have := r_ge_ok hE h3 (b_is_c (-1)) z1
      exact ⟨fun b hb _ => f1 b hb (by omega), f2⟩
  · -- 90
    obtain ⟨y, ys, rfl, hy, h0⟩ := g_ca hz
    have := g_na h0
    subst this
    have := r_ge_ok hE h (b_is_c 0) hy
    show ∀ k : Nat, k < 20 → (k : Int) < y → q_i m 108 k = -1 ∧ q_i m 110 k = -1
    intro k _ hk
    omega
  · -- 92
    obtain ⟨y, ys, rfl, hy, h0⟩ := g_ca hz
    have := g_na h0
    subst this
    have := r_ge_ok hE h (b_is_c 0) hy
    show ∀ k : Nat, k < 20 → (k : Int) < y → q_i m 109 k = -1
    intro k _ hk
    omega
  · cases h
theorem r_rdi_ok (hE : bg_E (r_F K g) v E m) {a j : Nat} {x : b_T} {z : Int32} {q : Int × Int} (hx : b_is v x (j : Int)) (hz : q_at m a j = .int z) (h : r_rdi E a x = some q) : q.1 ≤ z.toInt ∧ z.toInt ≤ q.2 := by
  have hl : q_i m a j = z.toInt := by
    unfold q_i
    rw [hz]
  unfold r_rdi at h
  split at h
  rotate_left
  · cases h
  rename_i ha
  have ha := Nat.eq_of_beq_eq_true ha
  subst ha
  split at h
  rotate_left
  · cases h
  rename_i hc
  cases h
  obtain ⟨u, hu, h2, h3⟩ := r_any_ok hc
  split at h3
  rotate_left
  · cases h3
  rename_i b r hu2
  obtain ⟨bv, rv, b1, r1, br⟩ := r_tok2 hE hu hu2
  rw [h2] at br
  obtain ⟨i1, i2, i3, i4⟩ : z_inv (q_i m 108) (q_i m 110) bv ∧ (∀ k : Nat, k < 20 → g < k → q_i m 110 k = -1) ∧ (∀ k : Nat, k < 20 → -1 ≤ q_i m 110 k ∧ q_i m 110 k < 20)
    ∧ (0 ≤ bv → ∃ (n : Nat) (rb rg : Nat → Nat) (rk : Nat → Prop), bv = n ∧ n < 20 ∧ (∃ k : Nat, k < 20 ∧ q_i m 109 n = k) ∧ (∀ j : Nat, j < 20 → q_i m 109 j < 20) ∧ z_rk (q_i m 109) (q_i m 110) g rb rg rk (rb n) ∧ (rb n : Int) ≤ rv) := br
  have c1 := b_eqv_ok hE h3 hx b1
  obtain ⟨n, rb, rg, rk, n1, n2, ⟨k, k1, k2⟩, n3, n4, n5⟩ := i4 (by omega)
  have ej : n = j := by omega
  subst ej
  simp only
  omega
theorem r_imp3_ok (hE : bg_E (r_F K g) v E m) : ¬ r_imp3 E = true := by
  intro h
  unfold r_imp3 at h
  rw [Bool.or_eq_true] at h
  rcases h with h | h
  · obtain ⟨u, hu, h2, h3⟩ := r_any_ok h
    split at h3
    rotate_left
    · cases h3
    rename_i t1 b l hu2
    split at h3
    rotate_left
    · cases h3
    rename_i o ho
    rw [Bool.and_eq_true] at h3
    obtain ⟨gv, bv, lv, g1, b1, l1, br⟩ := r_tok3 hE hu hu2
    rw [h2] at br
    obtain ⟨⟨f1, f2, f3, -⟩, n, n1, n2, n3, n4, -⟩ : z_bf (q_i m 108) (q_i m 109) (q_i m 110) (q_i m 111) g lv 1 (fun rk => ∃ k : Nat, k < 20 ∧ gv = k ∧ rk k) ∧ ∃ n : Nat, n < 20 ∧ bv = n ∧ 0 ≤ q_i m 109 n ∧ (0 ≤ q_i m 108 n → lv ≤ z_cg (q_i m 109) (q_i m 110) 20) ∧ ∀ k : Nat, k < 20 → q_i m 110 k = n → True := br
    rw [n2] at b1
    have hO := (b_fm_ok hE ho b1).2
    have c1 := r_ge_ok hE h3.1 hO (b_is_c 0)
    have c2 := r_ge_ok hE h3.2 l1 (b_is_c 20)
    have := n4 (by omega)
    have hg := f3 g.toNat (by omega) (by omega)
    have := z_cg_lt (A := q_i m 109) (H := q_i m 110) (k := g.toNat) (by omega) 20 (by omega)
    omega
  · obtain ⟨u, hu, h2, h3⟩ := r_any_ok h
    split at h3
    rotate_left
    · cases h3
    rename_i b r hu2
    rw [Bool.and_eq_true] at h3
    obtain ⟨bv, rv, b1, r1, br⟩ := r_tok2 hE hu hu2
    rw [h2] at br
    obtain ⟨i1, i2, i3, i4⟩ : z_inv (q_i m 108) (q_i m 110) bv ∧ (∀ k : Nat, k < 20 → g < k → q_i m 110 k = -1) ∧ (∀ k : Nat, k < 20 → -1 ≤ q_i m 110 k ∧ q_i m 110 k < 20)
      ∧ (0 ≤ bv → ∃ (n : Nat) (rb rg : Nat → Nat) (rk : Nat → Prop), bv = n ∧ n < 20 ∧ (∃ k : Nat, k < 20 ∧ q_i m 109 n = k) ∧ (∀ j : Nat, j < 20 → q_i m 109 j < 20) ∧ z_rk (q_i m 109) (q_i m 110) g rb rg rk (rb n) ∧ (rb n : Int) ≤ rv) := br
    have c1 := r_ge_ok hE h3.1 b1 (b_is_c 0)
    have c2 := r_ge_ok hE h3.2 (b_is_c 0) r1
    obtain ⟨n, rb, rg, rk, n1, n2, ⟨k, k1, k2⟩, n3, n4, n5⟩ := i4 (by omega)
    have := (n4.1 n n2 k k1 k2).2
    omega
end H3
end GH

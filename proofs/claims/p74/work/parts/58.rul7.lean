/-! RULES OF THE JOININGS: tokens that hold by what is known -/
set_option maxRecDepth 100000 in
theorem j_t4 : (List.range 1024).all (fun n => (List.range 10).all (fun f => decide (n % 2 ^ f = 0 ∧ n / 2 ^ f % 2 = 1 → j_fst n = f))) = true := by decide +kernel
theorem j_a6 {n f : Nat} (hn : n < 1024) (hf : f < 10) (h1 : n % 2 ^ f = 0) (h2 : n / 2 ^ f % 2 = 1) : j_fst n = f := of_decide_eq_true (List.all_eq_true.mp (List.all_eq_true.mp j_t4 n (List.mem_range.mpr hn)) f (List.mem_range.mpr hf)) ⟨h1, h2⟩
theorem j_pw : ∀ k, k < 10 → ∀ p, p < 10 → 2 ^ k / 2 ^ p % 2 = if p = k then 1 else 0 := by decide
section GH
variable {g : Int} {K : r_K}
def r_h134 (E : b_E) (c : b_T) : Bool := r_ge E (b_c 0) c 0 || r_y1 E 134 (fun c0 => b_eqv E c (r_sft c0 1) && (r_ge E c0 (b_c 0) 0 && r_ym E 103 c0 (fun b => r_ym E 101 c0 (fun G => r_ge E (b_ad G 1 b) (b_c 1) 0) && r_ym E 102 c0 (fun Y => r_ge E Y b 0))))
def r_h144 (E : b_E) : Bool := match b_fm E 93 (b_c 19) with
  | some t => r_y1 E 134 (fun c => r_ge E c t 0)
  | none => false
def r_h139 (E : b_E) (f u b k : b_T) : Bool := (b_eqv E f (b_c (-1)) && (b_eqv E u (b_c 0) && (b_eqv E b (b_c 0) && r_ge E (b_c 0) k 0)))
  || r_y4 E 139 (fun f0 u0 b0 k0 => b_eqv E k (r_sft k0 1) && (r_ge E k0 (b_c 0) 0 && (r_ge E (b_c 9) k0 0 && r_y1 E 136 (fun st => r_bit E st k0 (fun r => (b_eqv E r (b_c 0) && (b_eqv E f f0 && (b_eqv E u u0 && b_eqv E b b0))) || (r_ge E r (b_c 1) 0 && (r_ge E f0 (b_c 0) 0 || (b_eqv E f k0 && r_ym E 103 k0 (fun B => b_eqv E u (r_sft (b_ad u0 (-1) B) 1) && b_eqv E b (b_ad b0 1 B))))))))))
def r_h137 (E : b_E) (r : b_T) : Bool := r_ge E r (b_c 1) 0 || r_y4 E 139 (fun f0 u0 b0 k0 => (r_ge E f0 (b_c 0) 0 && (r_ge E k0 (b_c 0) 0 && (r_ge E (b_c 9) k0 0 && r_y1 E 136 (fun st => r_bit E st k0 (fun r => r_ge E r (b_c 1) 0)))))
  || (r_has E 144 && (match b_fm E 93 (b_c 19) with
    | some t => r_ge E k0 t 0 && (r_ym E 101 f0 (fun G => r_ge E u0 G 1) || r_ym E 102 f0 (fun Y => r_ge E b0 Y 1))
    | none => false)))
def r_h154 (E : b_E) (a f : b_T) : Bool := r_ge E a (b_c 1) 0 && (r_ge E (b_c 1023) a 0 && (r_ge E (b_c 9) f 0 && (r_y2 E 902 (fun x k => b_eqv E x a && b_eqv E k f) && r_bit E a f (fun r => r_ge E r (b_c 1) 0))))
def r_h150 (E : b_E) (a : b_T) : Bool := r_ge E (b_c 0) a 0 || r_y2 E 152 (fun a0 q => b_eqv E a (r_sft a0 1) && r_ge E (b_c 0) q 0)
def r_h151 (E : b_E) (a k : b_T) : Bool := r_ge E (b_c 0) k 0 && (r_ge E a (b_c 0) 0 && (r_ge E (b_c 1023) a 0 && r_y1 E 150 (fun a0 => b_eqv E a0 a)))
def r_h153 (E : b_E) (a q : b_T) : Bool := r_ge E q (b_c 1) 0 && (r_y2 E 152 (fun a0 q0 => b_eqv E a0 a && b_eqv E q0 q) && r_y2 E 154 (fun a1 f => b_eqv E a1 a && (r_bit E q f (fun r => b_eqv E r (b_c 0)) || (r_ym E 107 q (fun u => b_eqv E u (b_c 0)) && r_y1 E 135 (fun c => r_ge E c a 1 && r_y1 E 905 (fun d => r_ge E d a 1))))))
def r_nx (E : b_E) (a q q0 : b_T) : Bool := r_y3 E 156 (fun z x y => b_eqv E z q && (b_eqv E x (r_sft q0 (-1)) && b_eqv E y a))
def r_h152 (E : b_E) (a q : b_T) : Bool := r_y2 E 151 (fun a0 k => b_eqv E a0 a && (b_eqv E q a && r_ge E k (b_c 11) 0)) || r_y2 E 153 (fun a0 q0 => b_eqv E a0 a && r_nx E a q q0) || r_y2 E 152 (fun a0 q0 => b_eqv E a0 a && (r_h153 E a0 q0 && r_nx E a q q0))
def r_h135 (E : b_E) (c : b_T) : Bool := r_ge E (b_c 1) c 0 || r_y1 E 135 (fun c0 => r_ge E c0 c 0)
def r_h140 (E : b_E) : Bool := match b_fm E 93 (b_c 20) with
  | some t => b_eqv E t (b_c (-1))
  | none => false
def r_h160 (E : b_E) (a q : b_T) : Bool := r_ge E q (b_c 0) 0 && r_y2 E 154 (fun a1 f => b_eqv E a1 a && r_bit E q f (fun r => r_ge E r (b_c 1) 0))
def r_h157 (E : b_E) (a q r k : b_T) : Bool := b_eqv E k (b_c 0) && (r_ge E q (b_c 1) 0 && (r_y2 E 158 (fun x y => b_eqv E x a && b_eqv E y q) && (r_y2 E 160 (fun x y => b_eqv E x a && b_eqv E y q) && (r_y2 E 152 (fun x y => b_eqv E x a && b_eqv E y q) && r_y3 E 156 (fun z x y => b_eqv E z r && (b_eqv E x a && b_eqv E y (b_ad (b_c (-1)) (-1) q)))))))
def r_h161 (E : b_E) : Bool := r_y4 E 157 (fun _ _ _ k => r_ge E k (b_c 10) 0)
def r_h130 (E : b_E) : Bool := r_y1 E 150 (fun a => r_y1 E 905 (fun d => r_ge E a d 0))
def r_z0 (E : b_E) (c : b_T) : Bool := r_full E (fun z => r_ym E 104 (r_sft (r_11 z c) (-11)) (fun u => b_eqv E u (b_c 0)))
def r_h131 (E : b_E) (c : b_T) : Bool := (r_ge E (b_c 0) c 0 && r_has E 130) || r_y1 E 131 (fun c0 => b_eqv E c (r_sft c0 1) && (r_ge E c0 (b_c 0) 0 && r_z0 E c0))
def r_h132 (E : b_E) (c : b_T) : Bool := (r_ge E c (b_c 10) 0 && r_has E 130) || r_y1 E 132 (fun c0 => b_eqv E c (r_sft c0 (-1)) && (r_ge E c0 (b_c 0) 0 && r_z0 E c0))
def r_h133 (E : b_E) (c w : b_T) : Bool := (b_eqv E c (b_c 0) && (b_eqv E w (b_c 0) && r_has E 130)) || r_y2 E 133 (fun c0 w0 => b_eqv E c (r_sft c0 1) && (r_ge E (b_c 10) c0 0 && (r_ge E c0 (b_c 0) 0 && r_full E (fun z => r_ym E 104 (r_sft (r_11 z c0) (-11)) (fun u => b_eqv E w (b_ad w0 1 u))))))
def r_hav6 (E : b_E) (id : Nat) (us : List b_T) : Bool := match id, us with
  | 134, [c] => r_h134 E c
  | 135, [c] => r_h135 E c
  | 140, [] => r_h140 E
  | 144, [] => r_h144 E
  | 139, [f, u, b, k] => r_h139 E f u b k
  | 137, [r] => r_h137 E r
  | 154, [a, f] => r_h154 E a f
  | 150, [a] => r_h150 E a
  | 151, [a, k] => r_h151 E a k
  | 152, [a, q] => r_h152 E a q
  | 153, [a, q] => r_h153 E a q
  | 160, [a, q] => r_h160 E a q
  | 157, [a, q, r, k] => r_h157 E a q r k
  | 161, [] => r_h161 E
  | 130, [] => r_h130 E
  | 131, [c] => r_h131 E c
  | 132, [c] => r_h132 E c
  | 133, [c, w] => r_h133 E c w
  | _, _ => false
section H6
variable {v : List Int} {E : b_E} {m : q_M}
theorem r_nat {t : b_T} {z : Int} (h : b_is v t z) (h0 : 0 ≤ z) : ∃ n : Nat, z = n ∧ b_is v t (n : Int) := ⟨z.toNat, by omega, by rw [Int.toNat_of_nonneg h0]; exact h⟩
theorem r_h134_ok (hE : bg_E (r_F K g) v E m) {c : b_T} {z : Int} (hc : b_is v c z) (h : r_h134 E c = true) : r_F K g 134 [z] m := by
  show ∀ i : Nat, (i : Int) < z → i < 10 → 1 ≤ q_w m 101 10 i + q_w m 103 10 i ∧ q_w m 103 10 i ≤ q_w m 102 10 i
  unfold r_h134 at h
  rw [Bool.or_eq_true] at h
  rcases h with h | h
  · have := r_ge_ok hE h (b_is_c 0) hc
    intro i hi
    omega
  · obtain ⟨c0, y, c1, t1, h1⟩ := r_y1_ok hE h
    have t1 : ∀ i : Nat, (i : Int) < y → i < 10 → 1 ≤ q_w m 101 10 i + q_w m 103 10 i ∧ q_w m 103 10 i ≤ q_w m 102 10 i := t1
    rw [Bool.and_eq_true, Bool.and_eq_true] at h1
    have e1 := b_eqv_ok hE h1.1 hc (r_sft_ok (d := 1) c1)
    have g0 := r_ge_ok hE h1.2.1 c1 (b_is_c 0)
    obtain ⟨n, rfl, c2⟩ := r_nat c1 (by omega)
    obtain ⟨b, b1, b2⟩ := r_ym_ok hE h1.2.2 c2
    rw [Bool.and_eq_true] at b2
    obtain ⟨G, G1, G2⟩ := r_ym_ok hE b2.1 c2
    obtain ⟨Y, Y1, Y2⟩ := r_ym_ok hE b2.2 c2
    have h3 := r_ge_ok hE G2 (b_is_ad (k := 1) G1 b1) (b_is_c 1)
    have h4 := r_ge_ok hE Y2 Y1 b1
    intro i i1 i2
    by_cases ei : i = n
    · subst ei
      rw [q_w_at i2, q_w_at i2, q_w_at i2]
      omega
    · exact t1 i (by omega) i2
theorem r_h144_ok (hE : bg_E (r_F K g) v E m) (h : r_h144 E = true) : r_F K g 144 [] m := by
  show ∀ i : Nat, (i : Int) < q_i m 93 19 → i < 10 → 1 ≤ q_w m 101 10 i + q_w m 103 10 i ∧ q_w m 103 10 i ≤ q_w m 102 10 i
  unfold r_h144 at h
  split at h
  rotate_left
  · cases h
  rename_i t ht
  have hT := r_cst hE (c := 93) (d := 19) ht
  obtain ⟨c, y, c1, t1, h1⟩ := r_y1_ok hE h
  have t1 : ∀ i : Nat, (i : Int) < y → i < 10 → 1 ≤ q_w m 101 10 i + q_w m 103 10 i ∧ q_w m 103 10 i ≤ q_w m 102 10 i := t1
  have := r_ge_ok hE h1 c1 hT
  exact fun i i1 i2 => t1 i (by omega) i2
theorem r_h139_ok (hE : bg_E (r_F K g) v E m) {f u b k : b_T} {fz uz bz kz : Int} (hf : b_is v f fz) (hu : b_is v u uz) (hb : b_is v b bz) (hk : b_is v k kz) (h : r_h139 E f u b k = true) : r_F K g 139 [fz, uz, bz, kz] m := by
  show ∀ k : Nat, k < 10 → (k : Int) < q_i m 93 19 → g = (2 ^ k : Nat) → (kz ≤ k → fz = -1 ∧ uz = 0 ∧ bz = 0) ∧ (k < kz → fz = k ∧ uz = 1 - q_w m 103 10 k ∧ bz = q_w m 103 10 k)
  unfold r_h139 at h
  rw [Bool.or_eq_true] at h
  intro p p1 p2 p3
  rcases h with h | h
  · rw [Bool.and_eq_true, Bool.and_eq_true, Bool.and_eq_true] at h
    have e1 := b_eqv_ok hE h.1 hf (b_is_c (-1))
    have e2 := b_eqv_ok hE h.2.1 hu (b_is_c 0)
    have e3 := b_eqv_ok hE h.2.2.1 hb (b_is_c 0)
    have e4 := r_ge_ok hE h.2.2.2 (b_is_c 0) hk
    exact ⟨fun _ => ⟨e1, e2, e3⟩, fun _ => by omega⟩
  · obtain ⟨f0, u0, b0, k0, f0z, u0z, b0z, k0z, f1, u1, b1, k1, t1, h1⟩ := r_y4_ok hE h
    have t1 : ∀ k : Nat, k < 10 → (k : Int) < q_i m 93 19 → g = (2 ^ k : Nat) → (k0z ≤ k → f0z = -1 ∧ u0z = 0 ∧ b0z = 0) ∧ (k < k0z → f0z = k ∧ u0z = 1 - q_w m 103 10 k ∧ b0z = q_w m 103 10 k) := t1
    obtain ⟨q1, q2⟩ := t1 p p1 p2 p3
    rw [Bool.and_eq_true, Bool.and_eq_true, Bool.and_eq_true] at h1
    have e1 := b_eqv_ok hE h1.1 hk (r_sft_ok (d := 1) k1)
    have g0 := r_ge_ok hE h1.2.1 k1 (b_is_c 0)
    have g9 := r_ge_ok hE h1.2.2.1 (b_is_c 9) k1
    obtain ⟨n, rfl, k2⟩ := r_nat k1 (by omega)
    obtain ⟨st, sz, s1, t2, h2⟩ := r_y1_ok hE h1.2.2.2
    have t2 : sz = g := t2
    rw [t2, p3] at s1
    obtain ⟨r, r1, r2⟩ := r_bit_ok hE h2 s1 k2 (by omega)
    rw [j_pw p p1 n (by omega)] at r1
    rw [Bool.or_eq_true] at r2
    rcases r2 with r2 | r2
    · rw [Bool.and_eq_true, Bool.and_eq_true, Bool.and_eq_true] at r2
      obtain ⟨d1, d2, d3⟩ := r2
      have a1 := b_eqv_ok hE d1 r1 (b_is_c 0)
      have a2 := b_eqv_ok hE d2 hf f1
      have a3 := b_eqv_ok hE d3.1 hu u1
      have a4 := b_eqv_ok hE d3.2 hb b1
      have hne : n ≠ p := fun e => by
        rw [if_pos e] at a1
        simp at a1
      rw [a2, a3, a4]
      exact ⟨fun z => q1 (by omega), fun z => q2 (by omega)⟩
    · rw [Bool.and_eq_true] at r2
      obtain ⟨d1, d2⟩ := r2
      have a1 := r_ge_ok hE d1 r1 (b_is_c 1)
      have hnp : n = p := by
        by_cases e : n = p
        · exact e
        · rw [if_neg e] at a1
          simp at a1
      subst hnp
      obtain ⟨i1, i2, i3⟩ := q1 (Int.le_refl _)
      rw [Bool.or_eq_true] at d2
      rcases d2 with d2 | d2
      · have := r_ge_ok hE d2 f1 (b_is_c 0)
        omega
      · rw [Bool.and_eq_true] at d2
        have a2 := b_eqv_ok hE d2.1 hf k1
        obtain ⟨B, B1, B2⟩ := r_ym_ok hE d2.2 k2
        rw [Bool.and_eq_true] at B2
        have a3 := b_eqv_ok hE B2.1 hu (r_sft_ok (d := 1) (b_is_ad (k := -1) u1 B1))
        have a4 := b_eqv_ok hE B2.2 hb (b_is_ad (k := 1) b1 B1)
        rw [q_w_at p1]
        exact ⟨fun z => by omega, fun _ => ⟨a2, by omega, by omega⟩⟩
theorem r_h137_ok (hE : bg_E (r_F K g) v E m) {r : b_T} {z : Int} (hr : b_is v r z) (h : r_h137 E r = true) : r_F K g 137 [z] m := by
  show ∀ k : Nat, k < 10 → (k : Int) < q_i m 93 19 → g = (2 ^ k : Nat) → z ≠ 0
  unfold r_h137 at h
  rw [Bool.or_eq_true] at h
  intro p p1 p2 p3
  rcases h with h | h
  · have := r_ge_ok hE h hr (b_is_c 1)
    omega
  · exfalso
    obtain ⟨f0, u0, b0, k0, f0z, u0z, b0z, k0z, f1, u1, b1, k1, t1, h1⟩ := r_y4_ok hE h
    have t1 : ∀ k : Nat, k < 10 → (k : Int) < q_i m 93 19 → g = (2 ^ k : Nat) → (k0z ≤ k → f0z = -1 ∧ u0z = 0 ∧ b0z = 0) ∧ (k < k0z → f0z = k ∧ u0z = 1 - q_w m 103 10 k ∧ b0z = q_w m 103 10 k) := t1
    obtain ⟨q1, q2⟩ := t1 p p1 p2 p3
    rw [Bool.or_eq_true] at h1
    rcases h1 with h1 | h1
    · rw [Bool.and_eq_true, Bool.and_eq_true, Bool.and_eq_true] at h1
      have gf := r_ge_ok hE h1.1 f1 (b_is_c 0)
      have g0 := r_ge_ok hE h1.2.1 k1 (b_is_c 0)
      have g9 := r_ge_ok hE h1.2.2.1 (b_is_c 9) k1
      obtain ⟨n, rfl, k2⟩ := r_nat k1 (by omega)
      obtain ⟨st, sz, s1, t2, h2⟩ := r_y1_ok hE h1.2.2.2
      have t2 : sz = g := t2
      rw [t2, p3] at s1
      obtain ⟨r, r1, r2⟩ := r_bit_ok hE h2 s1 k2 (by omega)
      rw [j_pw p p1 n (by omega)] at r1
      have a1 := r_ge_ok hE r2 r1 (b_is_c 1)
      have hnp : n = p := by
        by_cases e : n = p
        · exact e
        · rw [if_neg e] at a1
          simp at a1
      subst hnp
      have := (q1 (Int.le_refl _)).1
      omega
    · rw [Bool.and_eq_true] at h1
      have h4 : ∀ i : Nat, (i : Int) < q_i m 93 19 → i < 10 → 1 ≤ q_w m 101 10 i + q_w m 103 10 i ∧ q_w m 103 10 i ≤ q_w m 102 10 i := r_has_ok hE h1.1
      have h2 := h1.2
      split at h2
      rotate_left
      · cases h2
      rename_i t ht
      have hT := r_cst hE (c := 93) (d := 19) ht
      rw [Bool.and_eq_true, Bool.or_eq_true] at h2
      have e1 := r_ge_ok hE h2.1 k1 hT
      obtain ⟨i1, i2, i3⟩ := q2 (by omega)
      obtain ⟨d1, d2⟩ := h4 p p2 p1
      rw [q_w_at p1] at i2 i3
      rw [q_w_at p1, q_w_at p1] at d1
      rw [q_w_at p1, q_w_at p1] at d2
      rw [i1] at f1
      rcases h2.2 with h3 | h3
      · obtain ⟨G, G1, G2⟩ := r_ym_ok hE h3 f1
        have := r_ge_ok hE G2 u1 G1
        omega
      · obtain ⟨Y, Y1, Y2⟩ := r_ym_ok hE h3 f1
        have := r_ge_ok hE Y2 b1 Y1
        omega
theorem r_h154_ok (hE : bg_E (r_F K g) v E m) {a f : b_T} {az fz : Int} (ha : b_is v a az) (hf : b_is v f fz) (h : r_h154 E a f = true) : r_F K g 154 [az, fz] m := by
  show ∃ n : Nat, az = n ∧ 1 ≤ n ∧ n < 1024 ∧ fz = j_fst n
  unfold r_h154 at h
  rw [Bool.and_eq_true, Bool.and_eq_true, Bool.and_eq_true, Bool.and_eq_true] at h
  have g1 := r_ge_ok hE h.1 ha (b_is_c 1)
  have g2 := r_ge_ok hE h.2.1 (b_is_c 1023) ha
  have g9 := r_ge_ok hE h.2.2.1 (b_is_c 9) hf
  obtain ⟨x, k, xz, kz, x1, k1, t1, h1⟩ := r_y2_ok hE h.2.2.2.1
  obtain ⟨n9, n1, n2, n3, n4⟩ : ∃ n : Nat, kz = n ∧ n ≤ 31 ∧ 0 ≤ xz ∧ xz % 2 ^ n = 0 := t1
  rw [Bool.and_eq_true] at h1
  have e1 := b_eqv_ok hE h1.1 x1 ha
  have e2 := b_eqv_ok hE h1.2 k1 hf
  obtain ⟨n, rfl, ha2⟩ := r_nat ha (by omega)
  have ef : fz = n9 := by omega
  subst ef
  obtain ⟨r, r1, r2⟩ := r_bit_ok hE h.2.2.2.2 ha2 hf (by omega)
  have g3 := r_ge_ok hE r2 r1 (b_is_c 1)
  refine ⟨n, rfl, by omega, by omega, ?_⟩
  rw [e1] at n4
  have n5 : n % 2 ^ n9 = 0 := by exact_mod_cast n4
  rw [j_a6 (by omega) (by omega) n5 (by omega)]
theorem r_h150_ok (hE : bg_E (r_F K g) v E m) {a : b_T} {az : Int} (ha : b_is v a az) (h : r_h150 E a = true) : r_F K g 150 [az] m := by
  show ∀ t : Nat, (t : Int) < az → t < 1024 → j_ok (q_w m 104 11264) t
  unfold r_h150 at h
  rw [Bool.or_eq_true] at h
  rcases h with h | h
  · have := r_ge_ok hE h (b_is_c 0) ha
    intro t h1
    omega
  · obtain ⟨a0, q, a0z, qz, a1, q1, t1, h1⟩ := r_y2_ok hE h
    obtain ⟨n, p, rfl, rfl, n2, ck, jt⟩ : ∃ n q : Nat, a0z = n ∧ qz = q ∧ n < 1024 ∧ j_ck n 1024 q = true ∧ j_at (q_w m 104 11264) n (j_rem n 1024 q) (q < 2 ^ j_fst n) := t1
    rw [Bool.and_eq_true] at h1
    have e1 := b_eqv_ok hE h1.1 ha (r_sft_ok (d := 1) a1)
    have e2 := r_ge_ok hE h1.2 (b_is_c 0) q1
    have hp : p = 0 := by omega
    subst hp
    intro t t1 t2
    by_cases et : t = n
    · subst et
      exact j_done (by omega) (Nat.pow_pos (by omega)) jt
    · exact jt.1 t (by omega)
theorem r_h151_ok (hE : bg_E (r_F K g) v E m) {a k : b_T} {az kz : Int} (ha : b_is v a az) (hk : b_is v k kz) (h : r_h151 E a k = true) : r_F K g 151 [az, kz] m := by
  show ∃ n : Nat, az = n ∧ n < 1024 ∧ (∀ t, t < n → j_ok (q_w m 104 11264) t) ∧ ∀ k : Nat, (k : Int) < kz → k < 11 → q_w m 104 11264 (11 * n + k) = if n = 0 ∧ k = 0 then 1 else 0
  unfold r_h151 at h
  rw [Bool.and_eq_true, Bool.and_eq_true, Bool.and_eq_true] at h
  have g1 := r_ge_ok hE h.1 (b_is_c 0) hk
  have g2 := r_ge_ok hE h.2.1 ha (b_is_c 0)
  have g3 := r_ge_ok hE h.2.2.1 (b_is_c 1023) ha
  obtain ⟨a0, a0z, a1, t1, h1⟩ := r_y1_ok hE h.2.2.2
  have t1 : ∀ t : Nat, (t : Int) < a0z → t < 1024 → j_ok (q_w m 104 11264) t := t1
  have e1 := b_eqv_ok hE h1 a1 ha
  exact ⟨az.toNat, by omega, by omega, fun t ht => t1 t (by omega) (by omega), fun k k1 _ => by omega⟩
theorem r_h153_ok (hE : bg_E (r_F K g) v E m) {a q : b_T} {az qz : Int} (ha : b_is v a az) (hq : b_is v q qz) (h : r_h153 E a q = true) : r_F K g 153 [az, qz] m := by
  show ∃ n q : Nat, az = n ∧ qz = q ∧ n < 1024 ∧ 1 ≤ q ∧ j_ck n 1024 q = true ∧ j_at (q_w m 104 11264) n (j_rem n 1024 (j_nx n q)) (j_nx n q < 2 ^ j_fst n)
  unfold r_h153 at h
  rw [Bool.and_eq_true, Bool.and_eq_true] at h
  have g1 := r_ge_ok hE h.1 hq (b_is_c 1)
  obtain ⟨a0, q0, a0z, q0z, a1, q1, t1, h1⟩ := r_y2_ok hE h.2.1
  obtain ⟨n, p, rfl, rfl, n2, ck, jt⟩ : ∃ n q : Nat, a0z = n ∧ q0z = q ∧ n < 1024 ∧ j_ck n 1024 q = true ∧ j_at (q_w m 104 11264) n (j_rem n 1024 q) (q < 2 ^ j_fst n) := t1
  rw [Bool.and_eq_true] at h1
  have e1 := b_eqv_ok hE h1.1 a1 ha
  have e2 := b_eqv_ok hE h1.2 q1 hq
  obtain ⟨b1, f, b1z, fz, b2, f1, t2, h2⟩ := r_y2_ok hE h.2.2
  obtain ⟨n', rfl, n1', n2', rfl⟩ : ∃ n : Nat, b1z = n ∧ 1 ≤ n ∧ n < 1024 ∧ fz = j_fst n := t2
  rw [Bool.and_eq_true, Bool.or_eq_true] at h2
  have e3 := b_eqv_ok hE h2.1 b2 ha
  have en : n' = n := by omega
  subst en
  have hqn := j_a5 n2 (by omega : 1 ≤ p) ck
  have hf10 := (j_a2 n2).2.1
  refine ⟨n', p, by omega, by omega, n2, by omega, ck, j_skip n2 (by omega) (by omega) ck ?_ jt⟩
  intro hpe
  rcases h2.2 with h3 | h3
  · obtain ⟨r, r1, r2⟩ := r_bit_ok hE h3 (by rw [e2]; exact hq : b_is v q (p : Int)) f1 (by omega)
    have := b_eqv_ok hE r2 r1 (b_is_c 0)
    rw [hpe, Nat.div_self (Nat.pow_pos (by omega))] at this
    simp at this
  · rw [Bool.and_eq_true] at h3
    obtain ⟨u, u1, u2⟩ := r_ym_ok hE h3.1 (by rw [e2]; exact hq : b_is v q (p : Int))
    have hu := b_eqv_ok hE u2 u1 (b_is_c 0)
    obtain ⟨c, cz, c1, t3, h4⟩ := r_y1_ok hE h3.2
    have t3 : ∀ k : Nat, k < 10 → (k : Int) < q_i m 93 19 → ((2 ^ k : Nat) : Int) < cz → q_w m 107 1024 (2 ^ k) ≠ 0 := t3
    rw [Bool.and_eq_true] at h4
    have g2 := r_ge_ok hE h4.1 c1 ha
    obtain ⟨d, dz, d1, t4, h5⟩ := r_y1_ok hE h4.2
    obtain ⟨N, N1, N2, N3⟩ : ∃ n : Nat, q_i m 93 19 = n ∧ n ≤ 10 ∧ dz = 2 ^ n := t4
    have g3 := r_ge_ok hE h5 d1 ha
    have hlt : j_fst n' < N := by
      have h6 : ((2 ^ j_fst n' : Nat) : Int) < ((2 ^ N : Nat) : Int) := by
        have : dz = ((2 ^ N : Nat) : Int) := by rw [N3]; simp
        omega
      have h6 : 2 ^ j_fst n' < 2 ^ N := by omega
      exact (Nat.pow_lt_pow_iff_right (by omega)).mp h6
    have := t3 (j_fst n') hf10 (by omega) (by omega)
    rw [← hpe, q_w_at (by omega)] at this
    exact this hu
theorem r_nx_ok (hE : bg_E (r_F K g) v E m) {a q a0 q0 : b_T} {az qz a0z q0z : Int} (ha : b_is v a az) (hq : b_is v q qz) (a1 : b_is v a0 a0z) (q1 : b_is v q0 q0z) (e1 : a0z = az) (h1 : r_nx E a q q0 = true) (t1 : r_F K g 153 [a0z, q0z] m) : r_F K g 152 [az, qz] m := by
  show ∃ n q : Nat, az = n ∧ qz = q ∧ n < 1024 ∧ j_ck n 1024 q = true ∧ j_at (q_w m 104 11264) n (j_rem n 1024 q) (q < 2 ^ j_fst n)
  unfold r_nx at h1
  obtain ⟨n, p, rfl, rfl, n2, p1, ck, jt⟩ : ∃ n q : Nat, a0z = n ∧ q0z = q ∧ n < 1024 ∧ 1 ≤ q ∧ j_ck n 1024 q = true ∧ j_at (q_w m 104 11264) n (j_rem n 1024 (j_nx n q)) (j_nx n q < 2 ^ j_fst n) := t1
  obtain ⟨z, x, y, zz, xz, yz, z1, x1, y1, t2, h2⟩ := r_y3_ok hE h1
  obtain ⟨A, B, A1, B1, AB⟩ : ∃ a b : Int32, a.toInt = xz ∧ b.toInt = yz ∧ (a &&& b).toInt = zz := t2
  rw [Bool.and_eq_true, Bool.and_eq_true] at h2
  have e2 := b_eqv_ok hE h2.1 z1 hq
  have e3 := b_eqv_ok hE h2.2.1 x1 (r_sft_ok (d := -1) q1)
  have e4 := b_eqv_ok hE h2.2.2 y1 ha
  have hqn := j_a5 n2 p1 ck
  obtain ⟨-, -, -, -, a5, a6⟩ := j_a4 n2 p1 (by omega) ck
  have eA : A = Int32.ofInt ((p : Int) - 1) := by
    rw [← Int32.ofInt_toInt A, A1, e3]
    rfl
  have eB : B = Int32.ofNat n := by
    rw [← Int32.ofInt_toInt B, B1, e4, ← e1]
    rfl
  rw [eA, eB, a5] at AB
  exact ⟨n, j_nx n p, by omega, by omega, n2, a6, jt⟩
theorem r_h152_ok (hE : bg_E (r_F K g) v E m) {a q : b_T} {az qz : Int} (ha : b_is v a az) (hq : b_is v q qz) (h : r_h152 E a q = true) : r_F K g 152 [az, qz] m := by
  show ∃ n q : Nat, az = n ∧ qz = q ∧ n < 1024 ∧ j_ck n 1024 q = true ∧ j_at (q_w m 104 11264) n (j_rem n 1024 q) (q < 2 ^ j_fst n)
  unfold r_h152 at h
  rw [Bool.or_eq_true, Bool.or_eq_true] at h
  rcases h with (h | h) | h
  · obtain ⟨a0, k, a0z, kz, a1, k1, t1, h1⟩ := r_y2_ok hE h
    obtain ⟨n, rfl, n2, n3, n4⟩ : ∃ n : Nat, a0z = n ∧ n < 1024 ∧ (∀ t, t < n → j_ok (q_w m 104 11264) t) ∧ ∀ k : Nat, (k : Int) < kz → k < 11 → q_w m 104 11264 (11 * n + k) = if n = 0 ∧ k = 0 then 1 else 0 := t1
    rw [Bool.and_eq_true, Bool.and_eq_true] at h1
    have e1 := b_eqv_ok hE h1.1 a1 ha
    have e2 := b_eqv_ok hE h1.2.1 hq ha
    have e3 := r_ge_ok hE h1.2.2 k1 (b_is_c 11)
    exact ⟨n, n, by omega, by omega, n2, j_a3 n2, j_begin n2 n3 (fun k hk => n4 k (by omega) hk)⟩
  · obtain ⟨a0, q0, a0z, q0z, a1, q1, t1, h1⟩ := r_y2_ok hE h
    rw [Bool.and_eq_true] at h1
    exact r_nx_ok hE ha hq a1 q1 (b_eqv_ok hE h1.1 a1 ha) h1.2 t1
  · obtain ⟨a0, q0, a0z, q0z, a1, q1, t1, h1⟩ := r_y2_ok hE h
    rw [Bool.and_eq_true, Bool.and_eq_true] at h1
    exact r_nx_ok hE ha hq a1 q1 (b_eqv_ok hE h1.1 a1 ha) h1.2.2 (r_h153_ok hE a1 q1 h1.2.1)
theorem r_h135_ok (hE : bg_E (r_F K g) v E m) {c : b_T} {cz : Int} (hc : b_is v c cz) (h : r_h135 E c = true) : r_F K g 135 [cz] m := by
  show ∀ k : Nat, k < 10 → (k : Int) < q_i m 93 19 → ((2 ^ k : Nat) : Int) < cz → q_w m 107 1024 (2 ^ k) ≠ 0
  unfold r_h135 at h
  rw [Bool.or_eq_true] at h
  rcases h with h | h
  · have h1 := r_ge_ok hE h (b_is_c 1) hc
    intro k _ _ h2
    have h3 : 1 ≤ 2 ^ k := Nat.one_le_two_pow
    omega
  · obtain ⟨a, az, a1, t1, h1⟩ := r_y1_ok hE h
    have t1 : ∀ k : Nat, k < 10 → (k : Int) < q_i m 93 19 → ((2 ^ k : Nat) : Int) < az → q_w m 107 1024 (2 ^ k) ≠ 0 := t1
    have h2 := r_ge_ok hE h1 a1 hc
    exact fun k k1 k2 k3 => t1 k k1 k2 (by omega)
theorem r_h140_ok (hE : bg_E (r_F K g) v E m) (h : r_h140 E = true) : r_F K g 140 [] m := by
  show q_i m 93 20 = -1
  unfold r_h140 at h
  split at h
  rotate_left
  · cases h
  rename_i t ht
  exact b_eqv_ok hE h (r_cst hE (c := 93) (d := 20) ht) (b_is_c (-1))
theorem r_h160_ok (hE : bg_E (r_F K g) v E m) {a q : b_T} {az qz : Int} (ha : b_is v a az) (hq : b_is v q qz) (h : r_h160 E a q = true) : r_F K g 160 [az, qz] m := by
  show ∃ n q : Nat, az = n ∧ qz = q ∧ q / 2 ^ j_fst n % 2 = 1
  unfold r_h160 at h
  rw [Bool.and_eq_true] at h
  have g1 := r_ge_ok hE h.1 hq (b_is_c 0)
  obtain ⟨b1, f, b1z, fz, b2, f1, t2, h2⟩ := r_y2_ok hE h.2
  obtain ⟨n, rfl, n1, n2, rfl⟩ : ∃ n : Nat, b1z = n ∧ 1 ≤ n ∧ n < 1024 ∧ fz = j_fst n := t2
  rw [Bool.and_eq_true] at h2
  have e3 := b_eqv_ok hE h2.1 b2 ha
  obtain ⟨p, rfl, hq2⟩ := r_nat hq (by omega)
  have hf10 := (j_a2 n2).2.1
  obtain ⟨r, r1, r2⟩ := r_bit_ok hE h2.2 hq2 f1 (by omega)
  have := r_ge_ok hE r2 r1 (b_is_c 1)
  exact ⟨n, p, by omega, rfl, by omega⟩
theorem r_h157_ok (hE : bg_E (r_F K g) v E m) {a q r k : b_T} {az qz rz kz : Int} (ha : b_is v a az) (hq : b_is v q qz) (hr : b_is v r rz) (hk : b_is v k kz) (h : r_h157 E a q r k = true) : r_F K g 157 [az, qz, rz, kz] m := by
  show ∃ n q e : Nat, az = n ∧ qz = q ∧ rz = ((n - q : Nat) : Int) ∧ kz = e ∧ e ≤ 10 ∧ n < 1024 ∧ 1 ≤ q ∧ j_ck n 1024 q = true ∧ g = 1024 * n + q ∧ j_at (q_w m 104 11264) n (j_sum (q_w m 104 11264) (11 * (n - q) + e) (10 - e) + j_rem n 1024 (j_nx n q)) (q ≤ 2 ^ j_fst n ∧ j_bits n ≤ e)
  unfold r_h157 at h
  rw [Bool.and_eq_true, Bool.and_eq_true, Bool.and_eq_true, Bool.and_eq_true, Bool.and_eq_true] at h
  obtain ⟨c1, c2, c3, c4, c5, c6⟩ := h
  have ek := b_eqv_ok hE c1 hk (b_is_c 0)
  have g1 := r_ge_ok hE c2 hq (b_is_c 1)
  obtain ⟨x, y, xz, yz, x1, y1, t1, h1⟩ := r_y2_ok hE c5
  obtain ⟨n, p, rfl, rfl, n2, ck, jt⟩ : ∃ n q : Nat, xz = n ∧ yz = q ∧ n < 1024 ∧ j_ck n 1024 q = true ∧ j_at (q_w m 104 11264) n (j_rem n 1024 q) (q < 2 ^ j_fst n) := t1
  rw [Bool.and_eq_true] at h1
  have e1 := b_eqv_ok hE h1.1 x1 ha
  have e2 := b_eqv_ok hE h1.2 y1 hq
  obtain ⟨x', y', xz', yz', x1', y1', t2, h2⟩ := r_y2_ok hE c3
  obtain ⟨n', p', rfl, rfl, p2', hg⟩ : ∃ n q : Nat, xz' = n ∧ yz' = q ∧ q < 1024 ∧ g = 1024 * n + q := t2
  rw [Bool.and_eq_true] at h2
  have e1' := b_eqv_ok hE h2.1 x1' ha
  have e2' := b_eqv_ok hE h2.2 y1' hq
  obtain ⟨x'', y'', xz'', yz'', x1'', y1'', t3, h3⟩ := r_y2_ok hE c4
  obtain ⟨n'', p'', rfl, rfl, hb⟩ : ∃ n q : Nat, xz'' = n ∧ yz'' = q ∧ q / 2 ^ j_fst n % 2 = 1 := t3
  rw [Bool.and_eq_true] at h3
  have e1'' := b_eqv_ok hE h3.1 x1'' ha
  have e2'' := b_eqv_ok hE h3.2 y1'' hq
  have en : n'' = n := by omega
  have ep : p'' = p := by omega
  subst en
  subst ep
  obtain ⟨z, s, t, zz, sz, tz, z1, s1, u1, t4, h4⟩ := r_y3_ok hE c6
  obtain ⟨A, B, A1, B1, AB⟩ : ∃ a b : Int32, a.toInt = sz ∧ b.toInt = tz ∧ (a &&& b).toInt = zz := t4
  rw [Bool.and_eq_true, Bool.and_eq_true] at h4
  have f1 := b_eqv_ok hE h4.1 z1 hr
  have f2 := b_eqv_ok hE h4.2.1 s1 ha
  have f3 := b_eqv_ok hE h4.2.2 u1 (b_is_ad (k := -1) (b_is_c (-1)) hq)
  have hqn := j_a5 n2 (by omega : 1 ≤ p'') ck
  obtain ⟨-, -, -, a4, -, -⟩ := j_a4 n2 (by omega : 1 ≤ p'') (by omega) ck
  have eA : A = Int32.ofNat n'' := by
    rw [← Int32.ofInt_toInt A, A1, f2, ← e1]
    rfl
  have eB : B = Int32.ofInt (-1 - (p'' : Int)) := by
    rw [← Int32.ofInt_toInt B, B1, f3, ← e2]
    congr 1
    omega
  rw [eA, eB, a4] at AB
  exact ⟨n'', p'', 0, by omega, by omega, by omega, by omega, by omega, n2, by omega, ck, by omega, j_add0 n2 (by omega) ck (by omega) hb jt⟩
theorem r_h161_ok (hE : bg_E (r_F K g) v E m) (h : r_h161 E = true) : r_F K g 161 [] m := by
  show ∃ n q : Nat, g = 1024 * n + q ∧ q < 1024 ∧ n < 1024 ∧ 1 ≤ q ∧ j_ck n 1024 q = true ∧ j_at (q_w m 104 11264) n (j_rem n 1024 (j_nx n q)) (j_nx n q < 2 ^ j_fst n)
  unfold r_h161 at h
  obtain ⟨s, o, r, k, sz, oz, rz, kz, s1, o1, r1, k1, t1, h1⟩ := r_y4_ok hE h
  obtain ⟨n, q, e, rfl, rfl, rfl, rfl, e2, n2, q1, ck, hg, jt⟩ : ∃ n q e : Nat, sz = n ∧ oz = q ∧ rz = ((n - q : Nat) : Int) ∧ kz = e ∧ e ≤ 10 ∧ n < 1024 ∧ 1 ≤ q ∧ j_ck n 1024 q = true ∧ g = 1024 * n + q ∧ j_at (q_w m 104 11264) n (j_sum (q_w m 104 11264) (11 * (n - q) + e) (10 - e) + j_rem n 1024 (j_nx n q)) (q ≤ 2 ^ j_fst n ∧ j_bits n ≤ e) := t1
  have := r_ge_ok hE h1 k1 (b_is_c 10)
  have ee : e = 10 := by omega
  subst ee
  have hqn := j_a5 n2 q1 ck
  exact ⟨n, q, hg, by omega, n2, q1, ck, j_add2 n2 q1 (by omega) ck jt⟩
theorem r_h130_ok (hE : bg_E (r_F K g) v E m) (h : r_h130 E = true) : r_F K g 130 [] m := by
  show ∃ n : Nat, q_i m 93 19 = n ∧ n ≤ 10 ∧ j_ok (q_w m 104 11264) (2 ^ n - 1)
  unfold r_h130 at h
  obtain ⟨a, az, a1, t1, h1⟩ := r_y1_ok hE h
  have t1 : ∀ t : Nat, (t : Int) < az → t < 1024 → j_ok (q_w m 104 11264) t := t1
  obtain ⟨d, dz, d1, t4, h5⟩ := r_y1_ok hE h1
  obtain ⟨N, N1, N2, N3⟩ : ∃ n : Nat, q_i m 93 19 = n ∧ n ≤ 10 ∧ dz = 2 ^ n := t4
  have e := r_ge_ok hE h5 a1 d1
  have hp := r_p10 N2
  have hp1 : 1 ≤ 2 ^ N := Nat.one_le_two_pow
  have hd : dz = ((2 ^ N : Nat) : Int) := by rw [N3]; simp
  exact ⟨N, N1, N2, t1 (2 ^ N - 1) (by omega) (by omega)⟩
theorem r_z0_ok (hE : bg_E (r_F K g) v E m) {c : b_T} {k n : Nat} (hc : b_is v c (k : Int)) (hk : k < 11) (n1 : q_i m 93 19 = n) (n2 : n ≤ 10) (h : r_z0 E c = true) : q_w m 104 11264 (11 * (2 ^ n - 1) + k) = 0 := by
  obtain ⟨z, z1, z2⟩ := r_full_ok hE h n1 n2
  obtain ⟨u, u1, u2⟩ := r_ym_ok hE z2 (r_idx z1 hc)
  have := b_eqv_ok hE u2 u1 (b_is_c 0)
  have hp := r_p10 n2
  rw [q_w_at (by omega)]
  exact this
theorem r_h131_ok (hE : bg_E (r_F K g) v E m) {c : b_T} {cz : Int} (hc : b_is v c cz) (h : r_h131 E c = true) : r_F K g 131 [cz] m := by
  show ∃ n : Nat, q_i m 93 19 = n ∧ n ≤ 10 ∧ ∃ k : Nat, k < 11 ∧ cz ≤ k ∧ q_w m 104 11264 (11 * (2 ^ n - 1) + k) ≠ 0
  unfold r_h131 at h
  rw [Bool.or_eq_true] at h
  rcases h with h | h
  · rw [Bool.and_eq_true] at h
    have := r_ge_ok hE h.1 (b_is_c 0) hc
    obtain ⟨n, n1, n2, n3⟩ : ∃ n : Nat, q_i m 93 19 = n ∧ n ≤ 10 ∧ j_ok (q_w m 104 11264) (2 ^ n - 1) := r_has_ok hE h.2
    have hb := (j_a2 (n := 2 ^ n - 1) (by have := r_p10 n2; omega)).1
    have := n3.2.2
    exact ⟨n, n1, n2, j_bits (2 ^ n - 1), by omega, by omega, by omega⟩
  · obtain ⟨c0, y, c1, t1, h1⟩ := r_y1_ok hE h
    obtain ⟨n, n1, n2, k, k1, k2, k3⟩ : ∃ n : Nat, q_i m 93 19 = n ∧ n ≤ 10 ∧ ∃ k : Nat, k < 11 ∧ y ≤ k ∧ q_w m 104 11264 (11 * (2 ^ n - 1) + k) ≠ 0 := t1
    rw [Bool.and_eq_true, Bool.and_eq_true] at h1
    have e1 := b_eqv_ok hE h1.1 hc (r_sft_ok (d := 1) c1)
    have g0 := r_ge_ok hE h1.2.1 c1 (b_is_c 0)
    obtain ⟨p, rfl, c2⟩ := r_nat c1 (by omega)
    refine ⟨n, n1, n2, k, k1, ?_, k3⟩
    by_cases e : k = p
    · subst e
      exact absurd (r_z0_ok hE c2 k1 n1 n2 h1.2.2) k3
    · omega
theorem r_h132_ok (hE : bg_E (r_F K g) v E m) {c : b_T} {cz : Int} (hc : b_is v c cz) (h : r_h132 E c = true) : r_F K g 132 [cz] m := by
  show ∃ n : Nat, q_i m 93 19 = n ∧ n ≤ 10 ∧ ∃ k : Nat, k < 11 ∧ k ≤ cz ∧ q_w m 104 11264 (11 * (2 ^ n - 1) + k) ≠ 0
  unfold r_h132 at h
  rw [Bool.or_eq_true] at h
  rcases h with h | h
  · rw [Bool.and_eq_true] at h
    have := r_ge_ok hE h.1 hc (b_is_c 10)
    obtain ⟨n, n1, n2, n3⟩ : ∃ n : Nat, q_i m 93 19 = n ∧ n ≤ 10 ∧ j_ok (q_w m 104 11264) (2 ^ n - 1) := r_has_ok hE h.2
    have hb := (j_a2 (n := 2 ^ n - 1) (by have := r_p10 n2; omega)).1
    have := n3.2.2
    exact ⟨n, n1, n2, j_bits (2 ^ n - 1), by omega, by omega, by omega⟩
  · obtain ⟨c0, y, c1, t1, h1⟩ := r_y1_ok hE h
    obtain ⟨n, n1, n2, k, k1, k2, k3⟩ : ∃ n : Nat, q_i m 93 19 = n ∧ n ≤ 10 ∧ ∃ k : Nat, k < 11 ∧ k ≤ y ∧ q_w m 104 11264 (11 * (2 ^ n - 1) + k) ≠ 0 := t1
    rw [Bool.and_eq_true, Bool.and_eq_true] at h1
    have e1 := b_eqv_ok hE h1.1 hc (r_sft_ok (d := -1) c1)
    have g0 := r_ge_ok hE h1.2.1 c1 (b_is_c 0)
    obtain ⟨p, rfl, c2⟩ := r_nat c1 (by omega)
    refine ⟨n, n1, n2, k, k1, ?_, k3⟩
    by_cases e : k = p
    · subst e
      exact absurd (r_z0_ok hE c2 k1 n1 n2 h1.2.2) k3
    · omega
theorem r_h133_ok (hE : bg_E (r_F K g) v E m) {c w : b_T} {cz wz : Int} (hc : b_is v c cz) (hw : b_is v w wz) (h : r_h133 E c w = true) : r_F K g 133 [cz, wz] m := by
  show ∃ n e : Nat, q_i m 93 19 = n ∧ n ≤ 10 ∧ cz = e ∧ e ≤ 11 ∧ wz = j_sum (q_w m 104 11264) (11 * (2 ^ n - 1)) e ∧ j_ok (q_w m 104 11264) (2 ^ n - 1)
  unfold r_h133 at h
  rw [Bool.or_eq_true] at h
  rcases h with h | h
  · rw [Bool.and_eq_true, Bool.and_eq_true] at h
    have e1 := b_eqv_ok hE h.1 hc (b_is_c 0)
    have e2 := b_eqv_ok hE h.2.1 hw (b_is_c 0)
    obtain ⟨n, n1, n2, n3⟩ : ∃ n : Nat, q_i m 93 19 = n ∧ n ≤ 10 ∧ j_ok (q_w m 104 11264) (2 ^ n - 1) := r_has_ok hE h.2.2
    exact ⟨n, 0, n1, n2, by omega, by omega, e2, n3⟩
  · obtain ⟨c0, w0, y, w0z, c1, w1, t1, h1⟩ := r_y2_ok hE h
    obtain ⟨n, e, n1, n2, rfl, e2, e3, n3⟩ : ∃ n e : Nat, q_i m 93 19 = n ∧ n ≤ 10 ∧ y = e ∧ e ≤ 11 ∧ w0z = j_sum (q_w m 104 11264) (11 * (2 ^ n - 1)) e ∧ j_ok (q_w m 104 11264) (2 ^ n - 1) := t1
    rw [Bool.and_eq_true, Bool.and_eq_true, Bool.and_eq_true] at h1
    have d1 := b_eqv_ok hE h1.1 hc (r_sft_ok (d := 1) c1)
    have g10 := r_ge_ok hE h1.2.1 (b_is_c 10) c1
    obtain ⟨z, z1, z2⟩ := r_full_ok hE h1.2.2.2 n1 n2
    obtain ⟨u, u1, u2⟩ := r_ym_ok hE z2 (r_idx z1 c1)
    have d2 := b_eqv_ok hE u2 hw (b_is_ad (k := 1) w1 u1)
    have hp := r_p10 n2
    refine ⟨n, e + 1, n1, n2, by omega, by omega, ?_, n3⟩
    show wz = j_sum (q_w m 104 11264) (11 * (2 ^ n - 1)) e + q_w m 104 11264 (11 * (2 ^ n - 1) + e)
    rw [q_w_at (by omega)]
    omega
theorem r_hav6_ok (hE : bg_E (r_F K g) v E m) {id : Nat} {us : List b_T} {zs : List Int} (hz : g_2 (b_is v) us zs) (h : r_hav6 E id us = true) : r_F K g id zs m := by
  unfold r_hav6 at h
  split at h
  · obtain ⟨a, ys, rfl, ha, h0⟩ := g_ca hz
    have := g_na h0
    subst this
    exact r_h134_ok hE ha h
  · obtain ⟨a, ys, rfl, ha, h0⟩ := g_ca hz
    have := g_na h0
    subst this
    exact r_h135_ok hE ha h
  · have := g_na hz
    subst this
    exact r_h140_ok hE h
  · have := g_na hz
    subst this
    exact r_h144_ok hE h
  · obtain ⟨a, ys, rfl, ha, h0⟩ := g_ca hz
    obtain ⟨b, ys, rfl, hb, h0⟩ := g_ca h0
    obtain ⟨c, ys, rfl, hc, h0⟩ := g_ca h0
    obtain ⟨d, ys, rfl, hd, h0⟩ := g_ca h0
    have := g_na h0
    subst this
    exact r_h139_ok hE ha hb hc hd h
  · obtain ⟨a, ys, rfl, ha, h0⟩ := g_ca hz
    have := g_na h0
    subst this
    exact r_h137_ok hE ha h
  · obtain ⟨a, ys, rfl, ha, h0⟩ := g_ca hz
    obtain ⟨b, ys, rfl, hb, h0⟩ := g_ca h0
    have := g_na h0
    subst this
    exact r_h154_ok hE ha hb h
  · obtain ⟨a, ys, rfl, ha, h0⟩ := g_ca hz
    have := g_na h0
    subst this
    exact r_h150_ok hE ha h
  · obtain ⟨a, ys, rfl, ha, h0⟩ := g_ca hz
    obtain ⟨b, ys, rfl, hb, h0⟩ := g_ca h0
    have := g_na h0
    subst this
    exact r_h151_ok hE ha hb h
  · obtain ⟨a, ys, rfl, ha, h0⟩ := g_ca hz
    obtain ⟨b, ys, rfl, hb, h0⟩ := g_ca h0
    have := g_na h0
    subst this
    exact r_h152_ok hE ha hb h
  · obtain ⟨a, ys, rfl, ha, h0⟩ := g_ca hz
    obtain ⟨b, ys, rfl, hb, h0⟩ := g_ca h0
    have := g_na h0
    subst this
    exact r_h153_ok hE ha hb h
  · obtain ⟨a, ys, rfl, ha, h0⟩ := g_ca hz
    obtain ⟨b, ys, rfl, hb, h0⟩ := g_ca h0
    have := g_na h0
    subst this
    exact r_h160_ok hE ha hb h
  · obtain ⟨a, ys, rfl, ha, h0⟩ := g_ca hz
    obtain ⟨b, ys, rfl, hb, h0⟩ := g_ca h0
    obtain ⟨c, ys, rfl, hc, h0⟩ := g_ca h0
    obtain ⟨d, ys, rfl, hd, h0⟩ := g_ca h0
    have := g_na h0
    subst this
    exact r_h157_ok hE ha hb hc hd h
  · have := g_na hz
    subst this
    exact r_h161_ok hE h
  · have := g_na hz
    subst this
    exact r_h130_ok hE h
  · obtain ⟨a, ys, rfl, ha, h0⟩ := g_ca hz
    have := g_na h0
    subst this
    exact r_h131_ok hE ha h
  · obtain ⟨a, ys, rfl, ha, h0⟩ := g_ca hz
    have := g_na h0
    subst this
    exact r_h132_ok hE ha h
  · obtain ⟨a, ys, rfl, ha, h0⟩ := g_ca hz
    obtain ⟨b, ys, rfl, hb, h0⟩ := g_ca h0
    have := g_na h0
    subst this
    exact r_h133_ok hE ha hb h
  · cases h
end H6
end GH

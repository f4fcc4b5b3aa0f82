/-! RULES OF THE JOININGS: what they are, and what holds when they say so -/
section GH
variable {g : Int} {K : r_K}
def r_y1 (E : b_E) (id : Nat) (f : b_T → Bool) : Bool := r_any E id (fun w => match w with | [a] => f a | _ => false)
def r_y2 (E : b_E) (id : Nat) (f : b_T → b_T → Bool) : Bool := r_any E id (fun w => match w with | [a, b] => f a b | _ => false)
def r_y3 (E : b_E) (id : Nat) (f : b_T → b_T → b_T → Bool) : Bool := r_any E id (fun w => match w with | [a, b, c] => f a b c | _ => false)
def r_y4 (E : b_E) (id : Nat) (f : b_T → b_T → b_T → b_T → Bool) : Bool := r_any E id (fun w => match w with | [a, b, c, d] => f a b c d | _ => false)
def r_ym (E : b_E) (c : Nat) (t : b_T) (f : b_T → Bool) : Bool := E.2.2.2.1.any (fun o => Nat.beq o.1 c && (b_eqv E o.2.1 t && (match o.2.2 with | (false, z) => f z | _ => false)))
def r_bit (E : b_E) (x y : b_T) (f : b_T → Bool) : Bool := r_y3 E 900 (fun z x0 y0 => b_eqv E x0 x && (b_eqv E y0 y && r_y2 E 901 (fun r z0 => b_eqv E z0 z && f r)))
def r_11 (a b : b_T) : b_T := b_ad b 11 a
def r_full (E : b_E) (f : b_T → Bool) : Bool := match b_fm E 93 (b_c 19) with
  | some t => r_y2 E 906 (fun z y => b_eqv E y t && f z)
  | none => false
section R6
variable {v : List Int} {E : b_E} {m m1 : q_M}
theorem r_tok4 (hE : bg_E (r_F K g) v E m) {u : b_Q} (hu : u ∈ E.2.2.2.2) {a b c d : b_T} (h : u.2 = [a, b, c, d]) : ∃ x y z w, b_is v a x ∧ b_is v b y ∧ b_is v c z ∧ b_is v d w ∧ r_F K g u.1 [x, y, z, w] m := by
  obtain ⟨zs, h1, h2⟩ := hE.2.2.2.2 u hu
  rw [h] at h1
  obtain ⟨x, ys, rfl, hx, h1⟩ := g_ca h1
  obtain ⟨y, ys, rfl, hy, h1⟩ := g_ca h1
  obtain ⟨z, ys, rfl, hz, h1⟩ := g_ca h1
  obtain ⟨w, ys, rfl, hw, h1⟩ := g_ca h1
  have := g_na h1
  subst this
  exact ⟨x, y, z, w, hx, hy, hz, hw, h2⟩
theorem r_y1_ok (hE : bg_E (r_F K g) v E m) {id : Nat} {f : b_T → Bool} (h : r_y1 E id f = true) : ∃ a x, b_is v a x ∧ r_F K g id [x] m ∧ f a = true := by
  obtain ⟨u, hu, h1, h2⟩ := r_any_ok h
  split at h2
  rotate_left
  · cases h2
  rename_i a hu2
  obtain ⟨x, x1, x2⟩ := r_tok1 hE hu hu2
  rw [h1] at x2
  exact ⟨a, x, x1, x2, h2⟩
theorem r_y2_ok (hE : bg_E (r_F K g) v E m) {id : Nat} {f : b_T → b_T → Bool} (h : r_y2 E id f = true) : ∃ a b x y, b_is v a x ∧ b_is v b y ∧ r_F K g id [x, y] m ∧ f a b = true := by
  obtain ⟨u, hu, h1, h2⟩ := r_any_ok h
  split at h2
  rotate_left
  · cases h2
  rename_i a b hu2
  obtain ⟨x, y, x1, y1, x2⟩ := r_tok2 hE hu hu2
  rw [h1] at x2
  exact ⟨a, b, x, y, x1, y1, x2, h2⟩
theorem r_y3_ok (hE : bg_E (r_F K g) v E m) {id : Nat} {f : b_T → b_T → b_T → Bool} (h : r_y3 E id f = true) : ∃ a b c x y z, b_is v a x ∧ b_is v b y ∧ b_is v c z ∧ r_F K g id [x, y, z] m ∧ f a b c = true := by
  obtain ⟨u, hu, h1, h2⟩ := r_any_ok h
  split at h2
  rotate_left
  · cases h2
  rename_i a b c hu2
  obtain ⟨x, y, z, x1, y1, z1, x2⟩ := r_tok3 hE hu hu2
  rw [h1] at x2
  exact ⟨a, b, c, x, y, z, x1, y1, z1, x2, h2⟩
theorem r_y4_ok (hE : bg_E (r_F K g) v E m) {id : Nat} {f : b_T → b_T → b_T → b_T → Bool} (h : r_y4 E id f = true) : ∃ a b c d x y z w, b_is v a x ∧ b_is v b y ∧ b_is v c z ∧ b_is v d w ∧ r_F K g id [x, y, z, w] m ∧ f a b c d = true := by
  obtain ⟨u, hu, h1, h2⟩ := r_any_ok h
  split at h2
  rotate_left
  · cases h2
  rename_i a b c d hu2
  obtain ⟨x, y, z, w, x1, y1, z1, w1, x2⟩ := r_tok4 hE hu hu2
  rw [h1] at x2
  exact ⟨a, b, c, d, x, y, z, w, x1, y1, z1, w1, x2, h2⟩
theorem r_ym_ok (hE : bg_E (r_F K g) v E m) {c : Nat} {t : b_T} {f : b_T → Bool} (h : r_ym E c t f = true) {j : Nat} (hj : b_is v t (j : Int)) : ∃ e, b_is v e (q_i m c j) ∧ f e = true := by
  obtain ⟨o, ho, h1⟩ := List.any_eq_true.mp h
  rw [Bool.and_eq_true, Bool.and_eq_true] at h1
  obtain ⟨h2, h3, h4⟩ := h1
  split at h4
  rotate_left
  · cases h4
  rename_i z hz
  obtain ⟨k, k1, k2⟩ := hE.2.2.2.1 o ho
  have e1 := b_eqv_ok hE h3 k1 hj
  have e2 : k = j := by omega
  subst e2
  rw [Nat.eq_of_beq_eq_true h2, hz] at k2
  obtain ⟨w, w1, w2⟩ := k2
  refine ⟨z, ?_, h4⟩
  unfold q_i
  rw [w1]
  exact w2
theorem r_bit_ok (hE : bg_E (r_F K g) v E m) {x y : b_T} {f : b_T → Bool} (h : r_bit E x y f = true) {n k : Nat} (hx : b_is v x (n : Int)) (hy : b_is v y (k : Int)) (hk : k ≤ 30) : ∃ r, b_is v r ((n / 2 ^ k % 2 : Nat) : Int) ∧ f r = true := by
  obtain ⟨z, x0, y0, z', x', y', z1, x1, y1, t1, h1⟩ := r_y3_ok hE h
  obtain ⟨a, b, a1, b1, ab⟩ : ∃ a b : Int32, a.toInt = x' ∧ b.toInt = y' ∧ (a >>> (b &&& 31)).toInt = z' := t1
  rw [Bool.and_eq_true, Bool.and_eq_true] at h1
  have e1 := b_eqv_ok hE h1.1 x1 hx
  have e2 := b_eqv_ok hE h1.2.1 y1 hy
  obtain ⟨r, z0, r', z0', r1, z01, t2, h2⟩ := r_y2_ok hE h1.2.2
  obtain ⟨c, c1, c2⟩ : ∃ a : Int32, a.toInt = z0' ∧ (a &&& 1).toInt = r' := t2
  rw [Bool.and_eq_true] at h2
  have e3 := b_eqv_ok hE h2.1 z01 z1
  rw [r_shr (by omega) (by omega : b.toInt = (k : Int)) hk, a1, e1] at ab
  have hz0 : 0 ≤ z' := by
    rw [← ab]
    exact Int.ediv_nonneg (by omega) (by exact Int.le_of_lt (Int.pow_pos (by decide)))
  rw [r_and1 (by omega), c1, e3, ← ab] at c2
  refine ⟨r, ?_, h2.2⟩
  have : ((n / 2 ^ k % 2 : Nat) : Int) = r' := by
    rw [← c2]
    simp
  rw [this]
  exact r1
theorem r_11_ok {a b : b_T} {x y : Int} (ha : b_is v a x) (hb : b_is v b y) : b_is v (r_11 a b) (11 * x + y) := by
  have := b_is_ad (k := 11) hb ha
  rw [show 11 * x + y = y + 11 * x by omega]
  exact this
theorem r_full_ok (hE : bg_E (r_F K g) v E m) {f : b_T → Bool} (h : r_full E f = true) {n : Nat} (hn : q_i m 93 19 = n) (hn10 : n ≤ 10) : ∃ z, b_is v z ((2 ^ n : Nat) : Int) ∧ f z = true := by
  unfold r_full at h
  split at h
  rotate_left
  · cases h
  rename_i t ht
  have hT := r_cst hE (c := 93) (d := 19) ht
  obtain ⟨z, y, z', y', z1, y1, t1, h1⟩ := r_y2_ok hE h
  rw [Bool.and_eq_true] at h1
  have e1 := b_eqv_ok hE h1.1 y1 hT
  have t1 : ∀ n : Nat, y' = n → n ≤ 30 → z' = 2 ^ n := t1
  have e2 := t1 n (by omega) (by omega)
  refine ⟨z, ?_, h1.2⟩
  rw [show ((2 ^ n : Nat) : Int) = z' by rw [e2]; simp]
  exact z1
/-- the place of a number in the last row -/
theorem r_idx {z c : b_T} {n k : Nat} (hz : b_is v z ((2 ^ n : Nat) : Int)) (hc : b_is v c (k : Int)) : b_is v (r_sft (r_11 z c) (-11)) ((11 * (2 ^ n - 1) + k : Nat) : Int) := by
  have h1 := r_sft_ok (d := -11) (r_11_ok hz hc)
  have hp : 1 ≤ 2 ^ n := Nat.one_le_two_pow
  rw [show ((11 * (2 ^ n - 1) + k : Nat) : Int) = 11 * ((2 ^ n : Nat) : Int) + (k : Int) + -11 by omega]
  exact h1
theorem j_a5 {n q : Nat} (hn : n < 1024) (hq : 1 ≤ q) (h : j_ck n 1024 q = true) : q ≤ n := by
  have e : j_ck n 1024 q = (Nat.beq q 0 || (j_c1 n q && j_ck n 1023 (j_nx n q))) := rfl
  rw [e, Bool.or_eq_true] at h
  rcases h with h | h
  · have := Nat.eq_of_beq_eq_true h
    omega
  · rw [Bool.and_eq_true] at h
    have h1 := h.1
    unfold j_c1 at h1
    simp only [Bool.and_eq_true] at h1
    exact Nat.le_of_ble_eq_true h1.2.1
theorem r_p10 {n : Nat} (h : n ≤ 10) : 2 ^ n ≤ 1024 := by
  have : 2 ^ n ≤ 2 ^ 10 := Nat.pow_le_pow_right (by omega) h
  omega
end R6
def r_sto6 (E : b_E) (c : Nat) (x : b_T) (e : b_N) : List b_Q := match e with
  | (true, _) => []
  | (false, w) => match c with
    | 101 => E.2.2.2.2.filter (fun u => Nat.beq u.1 134 && (match u.2 with | [a] => r_ge E x a 0 | _ => false))
    | 102 => E.2.2.2.2.filter (fun u => Nat.beq u.1 134 && (match u.2 with | [a] => r_ge E x a 0 | _ => false))
    | 103 => E.2.2.2.2.filter (fun u => Nat.beq u.1 134 && (match u.2 with | [a] => r_ge E x a 0 | _ => false))
    | 107 => E.2.2.2.2.filterMap (fun u => match Nat.beq u.1 135, u.2 with
      | true, [a] => if b_eqv E x a = true ∧ r_y2 E 138 (fun s r => b_eqv E s x && b_eqv E r w) = true ∧ r_ge E (b_c 1023) x 0 = true then some (135, [r_sft a 1]) else none
      | _, _ => none)
    | 104 => E.2.2.2.2.filterMap (fun u => match u.1, u.2 with
      | 151, [a, k] => if b_eqv E x (r_11 a k) = true ∧ r_ge E (b_c 10) k 0 = true ∧ r_ge E k (b_c 0) 0 = true ∧ ((b_eqv E a (b_c 0) && (b_eqv E k (b_c 0) && b_eqv E w (b_c 1))) || ((r_ge E a (b_c 1) 0 || r_ge E k (b_c 1) 0) && b_eqv E w (b_c 0))) = true then some (151, [a, r_sft k 1]) else none
      | 157, [a, q, r, k] => if b_eqv E x (r_sft (r_11 a k) 1) = true ∧ r_ge E (b_c 9) k 0 = true ∧ r_ym E 104 x (fun X => r_ym E 104 (r_11 r k) (fun Z => b_eqv E w (b_ad X 1 Z))) = true then some (157, [a, q, r, r_sft k 1]) else none
      | _, _ => none)
    | _ => []
def r_imp7 (E : b_E) : Bool := r_y1 E 131 (fun c => r_ge E c (b_c 11) 0 || (r_ge E c (b_c 10) 0 && r_full E (fun z => r_ym E 104 (r_sft (r_11 z c) (-11)) (fun u => b_eqv E u (b_c 0)))))
  || r_y1 E 132 (fun c => r_ge E (b_c (-1)) c 0 || (r_ge E (b_c 0) c 0 && (r_ge E c (b_c 0) 0 && r_full E (fun z => r_ym E 104 (r_sft (r_11 z c) (-11)) (fun u => b_eqv E u (b_c 0))))))
  || r_y2 E 133 (fun c w => (r_ge E (b_c 10) c 0 && (r_ge E c (b_c 0) 0 && r_full E (fun z => r_ym E 104 (r_sft (r_11 z c) (-11)) (fun u => r_ge E (b_ad w 1 u) (b_c 115976) 0)))) || (r_ge E w (b_c 115976) 0 || (r_ge E (b_c (-1)) w 0 || (r_ge E c (b_c 11) 0 && r_ge E (b_c 0) w 0))))
  || (r_has E 140 && (match b_fm E 93 (b_c 20) with | some t => r_ge E t (b_c 0) 0 || r_ge E (b_c (-2)) t 0 | none => false))
def r_rdi6 (E : b_E) (a : Nat) (x : b_T) : Option (Int × Int) := match Nat.beq a 104 with
  | false => none
  | true => if (r_y4 E 157 (fun s _ r k => r_ge E (b_c 9) k 0 && (b_eqv E x (r_sft (r_11 s k) 1) || b_eqv E x (r_11 r k))) || ((r_has E 130 || r_y2 E 133 (fun _ _ => true)) && r_full E (fun z => r_ge E (r_sft (b_ad x (-11) z) 11) (b_c 0) 0 && r_ge E (b_c 10) (r_sft (b_ad x (-11) z) 11) 0))) = true then some (0, 115975) else none
section S6
variable {v : List Int} {E : b_E} {m m1 : q_M} {c j : Nat} {x : b_T} {e : b_N}
theorem r_imp7_ok (hE : bg_E (r_F K g) v E m) : ¬ r_imp7 E = true := by
  intro h
  unfold r_imp7 at h
  rw [Bool.or_eq_true, Bool.or_eq_true, Bool.or_eq_true] at h
  have hp : ∀ {n k : Nat}, n ≤ 10 → k < 11 → 11 * (2 ^ n - 1) + k < 11264 := fun hn hk => by
    have := r_p10 hn
    omega
  rcases h with ((h | h) | h) | h
  · obtain ⟨c, cz, c1, t1, h1⟩ := r_y1_ok hE h
    obtain ⟨n, n1, n2, k, k1, k2, k3⟩ : ∃ n : Nat, q_i m 93 19 = n ∧ n ≤ 10 ∧ ∃ k : Nat, k < 11 ∧ cz ≤ k ∧ q_w m 104 11264 (11 * (2 ^ n - 1) + k) ≠ 0 := t1
    rw [Bool.or_eq_true] at h1
    rcases h1 with h1 | h1
    · have := r_ge_ok hE h1 c1 (b_is_c 11)
      omega
    · rw [Bool.and_eq_true] at h1
      have h2 := r_ge_ok hE h1.1 c1 (b_is_c 10)
      have ek : cz = (k : Int) := by omega
      subst ek
      obtain ⟨z, z1, z2⟩ := r_full_ok hE h1.2 n1 n2
      obtain ⟨u, u1, u2⟩ := r_ym_ok hE z2 (r_idx z1 c1)
      have := b_eqv_ok hE u2 u1 (b_is_c 0)
      exact k3 (by rw [q_w_at (hp n2 k1)]; exact this)
  · obtain ⟨c, cz, c1, t1, h1⟩ := r_y1_ok hE h
    obtain ⟨n, n1, n2, k, k1, k2, k3⟩ : ∃ n : Nat, q_i m 93 19 = n ∧ n ≤ 10 ∧ ∃ k : Nat, k < 11 ∧ k ≤ cz ∧ q_w m 104 11264 (11 * (2 ^ n - 1) + k) ≠ 0 := t1
    rw [Bool.or_eq_true] at h1
    rcases h1 with h1 | h1
    · have := r_ge_ok hE h1 (b_is_c (-1)) c1
      omega
    · rw [Bool.and_eq_true, Bool.and_eq_true] at h1
      have h2 := r_ge_ok hE h1.1 (b_is_c 0) c1
      have ek : cz = (k : Int) := by omega
      subst ek
      obtain ⟨z, z1, z2⟩ := r_full_ok hE h1.2.2 n1 n2
      obtain ⟨u, u1, u2⟩ := r_ym_ok hE z2 (r_idx z1 c1)
      have := b_eqv_ok hE u2 u1 (b_is_c 0)
      exact k3 (by rw [q_w_at (hp n2 k1)]; exact this)
  · obtain ⟨c, w, cz, wz, c1, w1, t1, h1⟩ := r_y2_ok hE h
    obtain ⟨n, k, n1, n2, k1, k2, k3, k4⟩ : ∃ n e : Nat, q_i m 93 19 = n ∧ n ≤ 10 ∧ cz = e ∧ e ≤ 11 ∧ wz = j_sum (q_w m 104 11264) (11 * (2 ^ n - 1)) e ∧ j_ok (q_w m 104 11264) (2 ^ n - 1) := t1
    have hb := j_a2 (n := 2 ^ n - 1) (by have := r_p10 n2; omega)
    have hs := k4.2.1
    have hm := j_sum_le (k := k) k4.1 k2
    have hnn := j_sum_nn (W := q_w m 104 11264) (b := 11 * (2 ^ n - 1)) (n := k) (fun i hi => k4.1 i (by omega))
    rw [Bool.or_eq_true, Bool.or_eq_true, Bool.or_eq_true] at h1
    rcases h1 with h1 | h1 | h1 | h1
    · rw [Bool.and_eq_true, Bool.and_eq_true] at h1
      have h2 := r_ge_ok hE h1.1 (b_is_c 10) c1
      obtain ⟨z, z1, z2⟩ := r_full_ok hE h1.2.2 n1 n2
      rw [k1] at c1
      obtain ⟨u, u1, u2⟩ := r_ym_ok hE z2 (r_idx z1 c1)
      have h3 := r_ge_ok hE u2 (b_is_ad (k := 1) w1 u1) (b_is_c 115976)
      have h4 := j_sum_le (k := k + 1) k4.1 (by omega)
      have h5 : j_sum (q_w m 104 11264) (11 * (2 ^ n - 1)) (k + 1) = j_sum (q_w m 104 11264) (11 * (2 ^ n - 1)) k + q_w m 104 11264 (11 * (2 ^ n - 1) + k) := rfl
      rw [q_w_at (hp n2 (by omega))] at h5
      omega
    · have := r_ge_ok hE h1 w1 (b_is_c 115976)
      omega
    · have := r_ge_ok hE h1 (b_is_c (-1)) w1
      omega
    · rw [Bool.and_eq_true] at h1
      have h2 := r_ge_ok hE h1.1 c1 (b_is_c 11)
      have h3 := r_ge_ok hE h1.2 (b_is_c 0) w1
      have e11 : k = 11 := by omega
      subst e11
      have h4 := j_sum_ge k4.1 (j_bits (2 ^ n - 1)) (by omega)
      have := k4.2.2
      omega
  · rw [Bool.and_eq_true] at h
    have h1 : q_i m 93 20 = -1 := r_has_ok hE h.1
    have h2 := h.2
    split at h2
    rotate_left
    · cases h2
    rename_i t ht
    rw [Bool.or_eq_true] at h2
    rcases h2 with h2 | h2
    · have := r_ge_ok hE h2 (r_cst hE (c := 93) (d := 20) ht) (b_is_c 0)
      omega
    · have := r_ge_ok hE h2 (b_is_c (-2)) (r_cst hE (c := 93) (d := 20) ht)
      omega
theorem r_rdi6_ok (hE : bg_E (r_F K g) v E m) {a : Nat} {z : Int32} {q : Int × Int} (hx : b_is v x (j : Int)) (hz : q_at m a j = .int z) (h : r_rdi6 E a x = some q) : q.1 ≤ z.toInt ∧ z.toInt ≤ q.2 := by
  unfold r_rdi6 at h
  split at h
  · cases h
  rename_i ha
  have ha := Nat.eq_of_beq_eq_true ha
  subst ha
  split at h
  rotate_left
  · cases h
  rename_i hc
  cases h
  have hzi : q_i m 104 j = z.toInt := by
    unfold q_i
    rw [hz]
  rw [← hzi]
  have key : ∀ t k : Nat, t < 1024 → k < 11 → (j : Int) = ((11 * t + k : Nat) : Int) → (∀ k, k < 11 → 0 ≤ q_w m 104 11264 (11 * t + k)) → j_sum (q_w m 104 11264) (11 * t) 11 ≤ j_bell (j_bits t) → 0 ≤ q_i m 104 j ∧ q_i m 104 j ≤ 115975 := by
    intro t k ht hk ej h1 h2
    have ej : j = 11 * t + k := by omega
    have h3 := h1 k hk
    have h4 := j_sum_ge h1 k hk
    have h5 := (j_a2 ht).2.2.1
    rw [← ej, q_w_at (by omega)] at h3 h4
    exact ⟨h3, by omega⟩
  rw [Bool.or_eq_true] at hc
  rcases hc with hc | hc
  · obtain ⟨s, o, r, k, sz, oz, rz, kz, s1, o1, r1, k1, t1, h1⟩ := r_y4_ok hE hc
    obtain ⟨n, q, e, rfl, rfl, rfl, rfl, e2, n2, q1, ck, -, jt⟩ : ∃ n q e : Nat, sz = n ∧ oz = q ∧ rz = ((n - q : Nat) : Int) ∧ kz = e ∧ e ≤ 10 ∧ n < 1024 ∧ 1 ≤ q ∧ j_ck n 1024 q = true ∧ g = 1024 * n + q ∧ j_at (q_w m 104 11264) n (j_sum (q_w m 104 11264) (11 * (n - q) + e) (10 - e) + j_rem n 1024 (j_nx n q)) (q ≤ 2 ^ j_fst n ∧ j_bits n ≤ e) := t1
    rw [Bool.and_eq_true, Bool.or_eq_true] at h1
    have h9 := r_ge_ok hE h1.1 (b_is_c 9) k1
    have hqn := j_a5 n2 q1 ck
    have hok := jt.1 (n - q) (by omega)
    rcases h1.2 with h2 | h2
    · have ej := b_eqv_ok hE h2 hx (r_sft_ok (d := 1) (r_11_ok s1 k1))
      refine key n (e + 1) n2 (by omega) (by omega) jt.2.1 ?_
      have h3 := jt.2.2.1
      have h4 := j_sum_nn (W := q_w m 104 11264) (b := 11 * (n - q) + e) (n := 10 - e) (fun k hk => by
        have := hok.1 (e + k) (by omega)
        rw [show 11 * (n - q) + e + k = 11 * (n - q) + (e + k) by omega]
        exact this)
      omega
    · have ej := b_eqv_ok hE h2 hx (r_11_ok r1 k1)
      exact key (n - q) e (by omega) (by omega) (by omega) hok.1 hok.2.1
  · rw [Bool.and_eq_true, Bool.or_eq_true] at hc
    obtain ⟨n, n1, n2, hok⟩ : ∃ n : Nat, q_i m 93 19 = n ∧ n ≤ 10 ∧ j_ok (q_w m 104 11264) (2 ^ n - 1) := by
      rcases hc.1 with h1 | h1
      · exact r_has_ok hE h1
      · obtain ⟨c, w, cz, wz, c1, w1, t1, -⟩ := r_y2_ok hE h1
        obtain ⟨n, k, n1, n2, k1, k2, k3, k4⟩ : ∃ n e : Nat, q_i m 93 19 = n ∧ n ≤ 10 ∧ cz = e ∧ e ≤ 11 ∧ wz = j_sum (q_w m 104 11264) (11 * (2 ^ n - 1)) e ∧ j_ok (q_w m 104 11264) (2 ^ n - 1) := t1
        exact ⟨n, n1, n2, k4⟩
    obtain ⟨z0, z1, z2⟩ := r_full_ok hE hc.2 n1 n2
    rw [Bool.and_eq_true] at z2
    have hd := r_sft_ok (d := 11) (b_is_ad (k := -11) hx z1)
    have h1 := r_ge_ok hE z2.1 hd (b_is_c 0)
    have h2 := r_ge_ok hE z2.2 (b_is_c 10) hd
    have hp := r_p10 n2
    have hp1 : 1 ≤ 2 ^ n := Nat.one_le_two_pow
    exact key (2 ^ n - 1) (j - 11 * (2 ^ n - 1)) (by omega) (by omega) (by omega) hok.1 hok.2.1
theorem r_sto6_ok (hE : bg_E (r_F K g) v E m) (hx : b_is v x (j : Int)) (hm : ∀ d k, ¬ (d = c ∧ k = j) → q_at m1 d k = q_at m d k) (he : bg_n v e (q_at m1 c j)) : ∀ t ∈ r_sto6 E c x e, bg_Q (r_F K g) v m1 t := by
  intro t ht
  unfold r_sto6 at ht
  split at ht
  · cases ht
  rename_i w
  obtain ⟨z, z1, z2⟩ := he
  have hw : b_is v w (q_i m1 c j) := by
    unfold q_i
    rw [z1]
    exact z2
  have h134 : c = 101 ∨ c = 102 ∨ c = 103 → t ∈ E.2.2.2.2.filter (fun u => Nat.beq u.1 134 && (match u.2 with | [a] => r_ge E x a 0 | _ => false)) → bg_Q (r_F K g) v m1 t := by
    intro hc ht
    obtain ⟨hu, h1⟩ := List.mem_filter.mp ht
    rw [Bool.and_eq_true] at h1
    obtain ⟨h2, h3⟩ := h1
    split at h3
    rotate_left
    · cases h3
    rename_i a hu2
    obtain ⟨y, y1, y2⟩ := r_tok1 hE hu hu2
    have h2 := Nat.eq_of_beq_eq_true h2
    obtain ⟨t1, t2⟩ := t
    simp only at h2 hu2
    subst h2
    subst hu2
    have y2 : ∀ i : Nat, (i : Int) < y → i < 10 → 1 ≤ q_w m 101 10 i + q_w m 103 10 i ∧ q_w m 103 10 i ≤ q_w m 102 10 i := y2
    have h4 := r_ge_ok hE h3 hx y1
    refine ⟨[y], ⟨y1, trivial⟩, ?_⟩
    show ∀ i : Nat, (i : Int) < y → i < 10 → 1 ≤ q_w m1 101 10 i + q_w m1 103 10 i ∧ q_w m1 103 10 i ≤ q_w m1 102 10 i
    intro i i1 i2
    have hq : ∀ d, q_w m1 d 10 i = q_w m d 10 i := fun d => by
      unfold q_w
      rw [if_pos i2, if_pos i2]
      exact q_i_eq (hm d i (fun q => by omega))
    rw [hq, hq, hq]
    exact y2 i i1 i2
  split at ht
  · exact h134 (by simp) ht
  · exact h134 (by simp) ht
  · exact h134 (by simp) ht
  · obtain ⟨u, hu, hf⟩ := List.mem_filterMap.mp ht
    split at hf
    rotate_left
    · cases hf
    rename_i a h1 h2
    have h1 := Nat.eq_of_beq_eq_true h1
    split at hf
    rotate_left
    · cases hf
    rename_i hc
    have := Option.some.inj hf
    subst this
    obtain ⟨y, y1, y2⟩ := r_tok1 hE hu h2
    rw [h1] at y2
    have y2 : ∀ k : Nat, k < 10 → (k : Int) < q_i m 93 19 → ((2 ^ k : Nat) : Int) < y → q_w m 107 1024 (2 ^ k) ≠ 0 := y2
    have ey := b_eqv_ok hE hc.1 hx y1
    obtain ⟨s, r, sz, rz, s1, r1, t1, h3⟩ := r_y2_ok hE hc.2.1
    have hj := r_ge_ok hE hc.2.2 (b_is_c 1023) hx
    have hj : j < 1024 := by omega
    have t1 : ∀ k : Nat, k < 10 → (k : Int) < q_i m 93 19 → sz = ((2 ^ k : Nat) : Int) → rz ≠ 0 := t1
    rw [Bool.and_eq_true] at h3
    have e1 := b_eqv_ok hE h3.1 s1 hx
    have e2 := b_eqv_ok hE h3.2 r1 hw
    refine ⟨[y + 1], ⟨r_sft_ok (d := 1) y1, trivial⟩, ?_⟩
    show ∀ k : Nat, k < 10 → (k : Int) < q_i m1 93 19 → ((2 ^ k : Nat) : Int) < y + 1 → q_w m1 107 1024 (2 ^ k) ≠ 0
    intro k k1 k2 k3
    rw [q_i_eq (hm 93 19 (fun q => absurd q.1 (by decide)))] at k2
    by_cases ek : 2 ^ k = j
    · rw [ek, q_w_at hj, ← e2]
      exact t1 k k1 k2 (by omega)
    · have h4 := y2 k k1 k2 (by omega)
      rw [q_w_up hj (fun i hi => hm 107 i (fun q => hi q.2))]
      simp only [if_neg ek]
      exact h4
  · have hup := fun hlen : j < 11264 => q_w_up (m := m) (m1 := m1) (c := 104) (n := 11264) (j := j) hlen (fun i hi => hm 104 i (fun q => hi q.2))
    have hN : q_i m1 93 19 = q_i m 93 19 := q_i_eq (hm 93 19 (fun q => absurd q.1 (by decide)))
    obtain ⟨u, hu, hf⟩ := List.mem_filterMap.mp ht
    split at hf
    · rename_i a k h1 h2
      split at hf
      rotate_left
      · cases hf
      rename_i hc
      have := Option.some.inj hf
      subst this
      obtain ⟨az, kz, a1, k1, t1⟩ := r_tok2 hE hu h2
      rw [h1] at t1
      obtain ⟨n, rfl, n2, n3, n4⟩ : ∃ n : Nat, az = n ∧ n < 1024 ∧ (∀ t, t < n → j_ok (q_w m 104 11264) t) ∧ ∀ k : Nat, (k : Int) < kz → k < 11 → q_w m 104 11264 (11 * n + k) = if n = 0 ∧ k = 0 then 1 else 0 := t1
      obtain ⟨c1, c2, c3, c4⟩ := hc
      have ej := b_eqv_ok hE c1 hx (r_11_ok a1 k1)
      have g10 := r_ge_ok hE c2 (b_is_c 10) k1
      have g0 := r_ge_ok hE c3 k1 (b_is_c 0)
      refine ⟨[(n : Int), kz + 1], ⟨a1, r_sft_ok (d := 1) k1, trivial⟩, ?_⟩
      show ∃ n' : Nat, (n : Int) = n' ∧ n' < 1024 ∧ (∀ t, t < n' → j_ok (q_w m1 104 11264) t) ∧ ∀ k : Nat, (k : Int) < kz + 1 → k < 11 → q_w m1 104 11264 (11 * n' + k) = if n' = 0 ∧ k = 0 then 1 else 0
      rw [hup (by omega)]
      refine ⟨n, rfl, n2, fun t ht => j_ok_congr (j_a2 (n := t) (by omega)).1 (fun k hk => (if_neg (by omega)).symm) (n3 t ht), fun k hk1 hk2 => ?_⟩
      show (if 11 * n + k = j then q_i m1 104 j else q_w m 104 11264 (11 * n + k)) = _
      by_cases ek : (k : Int) = kz
      · rw [if_pos (by omega : 11 * n + k = j)]
        rw [Bool.or_eq_true, Bool.and_eq_true, Bool.and_eq_true, Bool.and_eq_true, Bool.or_eq_true] at c4
        rcases c4 with ⟨d1, d2, d3⟩ | ⟨d1, d2⟩
        · have := b_eqv_ok hE d1 a1 (b_is_c 0)
          have := b_eqv_ok hE d2 k1 (b_is_c 0)
          have := b_eqv_ok hE d3 hw (b_is_c 1)
          rw [if_pos ⟨by omega, by omega⟩]
          exact this
        · have := b_eqv_ok hE d2 hw (b_is_c 0)
          rw [if_neg]
          · exact this
          · rintro ⟨f1, f2⟩
            rcases d1 with d1 | d1
            · have := r_ge_ok hE d1 a1 (b_is_c 1)
              omega
            · have := r_ge_ok hE d1 k1 (b_is_c 1)
              omega
      · rw [if_neg (by omega : ¬ 11 * n + k = j)]
        exact n4 k (by omega) hk2
    · rename_i a q r k h1 h2
      split at hf
      rotate_left
      · cases hf
      rename_i hc
      have := Option.some.inj hf
      subst this
      obtain ⟨az, qz, rz, kz, a1, q1, r1, k1, t1⟩ := r_tok4 hE hu h2
      rw [h1] at t1
      obtain ⟨n, p, e, rfl, rfl, rfl, rfl, e2, n2, p1, ck, hg, jt⟩ : ∃ n q e : Nat, az = n ∧ qz = q ∧ rz = ((n - q : Nat) : Int) ∧ kz = e ∧ e ≤ 10 ∧ n < 1024 ∧ 1 ≤ q ∧ j_ck n 1024 q = true ∧ g = 1024 * n + q ∧ j_at (q_w m 104 11264) n (j_sum (q_w m 104 11264) (11 * (n - q) + e) (10 - e) + j_rem n 1024 (j_nx n q)) (q ≤ 2 ^ j_fst n ∧ j_bits n ≤ e) := t1
      obtain ⟨c1, c2, c3⟩ := hc
      have ej := b_eqv_ok hE c1 hx (r_sft_ok (d := 1) (r_11_ok a1 k1))
      have g9 := r_ge_ok hE c2 (b_is_c 9) k1
      have hqn := j_a5 n2 p1 ck
      have ejn : j = 11 * n + (e + 1) := by omega
      obtain ⟨X, X1, X2⟩ := r_ym_ok hE c3 hx
      have hri : b_is v (r_11 r k) ((11 * (n - p) + e : Nat) : Int) := by
        have := r_11_ok r1 k1
        rw [show ((11 * (n - p) + e : Nat) : Int) = 11 * ((n - p : Nat) : Int) + (e : Int) by omega]
        exact this
      obtain ⟨Z, Z1, Z2⟩ := r_ym_ok hE X2 hri
      have ew := b_eqv_ok hE Z2 hw (b_is_ad (k := 1) X1 Z1)
      have hadd := j_add1 (W := q_w m 104 11264) n2 p1 ck (by omega) (by omega : e < 10) jt
      refine ⟨[(n : Int), (p : Int), ((n - p : Nat) : Int), (e : Int) + 1], ⟨a1, q1, r1, r_sft_ok (d := 1) k1, trivial⟩, ?_⟩
      refine ⟨n, p, e + 1, rfl, rfl, rfl, by omega, by omega, n2, p1, ck, hg, ?_⟩
      have hf2 : q_w m1 104 11264 = fun i => if i = 11 * n + (e + 1) then q_w m 104 11264 (11 * n + (e + 1)) + q_w m 104 11264 (11 * (n - p) + e) else q_w m 104 11264 i := by
        rw [hup (by omega), ejn]
        funext i
        have e1 : q_w m 104 11264 (11 * n + (e + 1)) = q_i m 104 (11 * n + (e + 1)) := q_w_at (by omega)
        have e2 : q_w m 104 11264 (11 * (n - p) + e) = q_i m 104 (11 * (n - p) + e) := q_w_at (by omega)
        rw [e1, e2]
        rw [ejn] at ew
        split
        · omega
        · rfl
      rw [hf2]
      exact hadd
    · cases hf
  · cases ht
end S6
end GH

/-! JOININGS: sums of a row while sets are added -/
theorem j_rem_f (s : Nat) : ∀ (f f' o : Nat), o ≤ f → o ≤ f' → j_rem s f o = j_rem s f' o
  | 0, 0, o, _, _ => rfl
  | 0, f' + 1, o, h, _ => by
    have : o = 0 := by omega
    subst this
    simp [j_rem]
  | f + 1, 0, o, _, h => by
    have : o = 0 := by omega
    subst this
    simp [j_rem]
  | f + 1, f' + 1, o, h, h' => by
    unfold j_rem
    split
    · rfl
    · have hx : j_nx s o ≤ o - 1 := Nat.and_le_left
      rw [j_rem_f s f f' (j_nx s o) (by omega) (by omega)]
theorem j_rem_s {s o : Nat} (h1 : 1 ≤ o) (h2 : o < 1024) : j_rem s 1024 o = (if o / 2 ^ j_fst s % 2 = 1 then j_bell (j_bits (s - o)) else 0) + j_rem s 1024 (j_nx s o) := by
  have e : j_rem s 1024 o = j_rem s (1023 + 1) o := rfl
  rw [e]
  show (if o = 0 then 0 else (if o / 2 ^ j_fst s % 2 = 1 then j_bell (j_bits (s - o)) else 0) + j_rem s 1023 (j_nx s o)) = _
  rw [if_neg (by omega)]
  have hx : j_nx s o ≤ o - 1 := Nat.and_le_left
  rw [j_rem_f s 1023 1024 (j_nx s o) (by omega) (by omega)]
theorem j_nx_lt {s o : Nat} (h : 1 ≤ o) : j_nx s o < o := by
  have hx : j_nx s o ≤ o - 1 := Nat.and_le_left
  omega
theorem j_sum_congr {W V : Nat → Int} {b : Nat} : ∀ {n : Nat}, (∀ k, k < n → W (b + k) = V (b + k)) → j_sum W b n = j_sum V b n
  | 0, _ => rfl
  | n + 1, h => by
    unfold j_sum
    rw [j_sum_congr (fun k hk => h k (by omega)), h n (by omega)]
theorem j_sum_nn {W : Nat → Int} {b : Nat} : ∀ {n : Nat}, (∀ k, k < n → 0 ≤ W (b + k)) → 0 ≤ j_sum W b n
  | 0, _ => Int.le_refl _
  | n + 1, h => by
    unfold j_sum
    have := j_sum_nn (n := n) (fun k hk => h k (by omega))
    have := h n (by omega)
    omega
theorem j_sum_ge {W : Nat → Int} {b : Nat} : ∀ {n : Nat}, (∀ k, k < n → 0 ≤ W (b + k)) → ∀ k, k < n → W (b + k) ≤ j_sum W b n
  | 0, _, k, hk => by omega
  | n + 1, h, k, hk => by
    unfold j_sum
    by_cases e : k = n
    · subst e
      have := j_sum_nn (n := k) (fun i hi => h i (by omega))
      omega
    · have := j_sum_ge (n := n) (fun i hi => h i (by omega)) k (by omega)
      have := h n (by omega)
      omega
theorem j_sum_le {W : Nat → Int} {b : Nat} : ∀ {n k : Nat}, (∀ i, i < n → 0 ≤ W (b + i)) → k ≤ n → j_sum W b k ≤ j_sum W b n
  | 0, k, _, hk => by
    have : k = 0 := by omega
    subst this
    exact Int.le_refl _
  | n + 1, k, h, hk => by
    by_cases e : k = n + 1
    · subst e
      exact Int.le_refl _
    · have := j_sum_le (n := n) (k := k) (fun i hi => h i (by omega)) (by omega)
      have := h n (by omega)
      show j_sum W b k ≤ j_sum W b n + W (b + n)
      omega
theorem j_sum_hd {W : Nat → Int} : ∀ {n b : Nat}, j_sum W b (n + 1) = W b + j_sum W (b + 1) n
  | 0, b => by simp [j_sum]
  | n + 1, b => by
    have ih := j_sum_hd (W := W) (n := n) (b := b)
    show j_sum W b (n + 1) + W (b + (n + 1)) = W b + (j_sum W (b + 1) n + W (b + 1 + n))
    rw [ih, show b + (n + 1) = b + 1 + n by omega]
    omega
/-- one place changed -/
theorem j_sum_up {W : Nat → Int} {b k : Nat} {z : Int} : ∀ {n : Nat}, k < n → j_sum (fun j => if j = b + k then z else W j) b n = j_sum W b n - W (b + k) + z
  | 0, hk => by omega
  | n + 1, hk => by
    unfold j_sum
    by_cases e : k = n
    · subst e
      rw [j_sum_congr (V := W) (n := k) (fun i hi => if_neg (by omega)), if_pos rfl]
      omega
    · rw [j_sum_up (n := n) (by omega), if_neg (by omega)]
      omega
theorem j_ok_congr {W V : Nat → Int} {t : Nat} (ht : j_bits t ≤ 10) (h : ∀ k, k < 11 → W (11 * t + k) = V (11 * t + k)) (hw : j_ok W t) : j_ok V t := by
  refine ⟨fun k hk => ?_, ?_, ?_⟩
  · rw [← h k hk]
    exact hw.1 k hk
  · rw [← j_sum_congr h]
    exact hw.2.1
  · rw [← h _ (by omega)]
    exact hw.2.2
/-- a row is done -/
theorem j_done {W : Nat → Int} {n : Nat} {x : Int} {lo : Prop} (hx : 0 ≤ x) (hl : lo) (h : j_at W n x lo) : j_ok W n := ⟨h.2.1, by have := h.2.2.1; omega, h.2.2.2 hl⟩
/-- the row of a set begins -/
theorem j_begin {W : Nat → Int} {n : Nat} (hn : n < 1024) (h : ∀ t, t < n → j_ok W t) (hz : ∀ k, k < 11 → W (11 * n + k) = if n = 0 ∧ k = 0 then 1 else 0) : j_at W n (j_rem n 1024 n) (n < 2 ^ j_fst n) := by
  refine ⟨h, fun k hk => ?_, ?_, fun hlo => ?_⟩
  · rw [hz k hk]
    split <;> omega
  · have a1 := j_a1 hn
    by_cases h0 : n = 0
    · subst h0
      have e : j_sum W (11 * 0) 11 = 1 := by
        have e1 : j_sum W (11 * 0) 11 = j_sum (fun j => if j = 0 then 1 else 0) (11 * 0) 11 := j_sum_congr (fun k hk => by
          rw [hz k hk]
          by_cases e : k = 0 <;> simp [e])
        rw [e1]
        decide
      rw [e]
      decide
    · have e : j_sum W (11 * n) 11 = 0 := by
        have e1 : j_sum W (11 * n) 11 = j_sum (fun _ => 0) (11 * n) 11 := j_sum_congr (fun k hk => by
          rw [hz k hk, if_neg (fun q => h0 q.1)])
        rw [e1]
        simp [j_sum]
      rw [e]
      omega
  · rcases (j_a2 hn).2.2.2 with h0 | h0
    · subst h0
      have e : j_bits 0 = 0 := rfl
      rw [e, hz 0 (by omega)]
      simp
    · omega
/-- one set passed over -/
theorem j_skip {W : Nat → Int} {n q : Nat} (hn : n < 1024) (hq : 1 ≤ q) (hq2 : q ≤ 1023) (hs : j_ck n 1024 q = true) (hne : ¬ q = 2 ^ j_fst n) (h : j_at W n (j_rem n 1024 q) (q < 2 ^ j_fst n)) : j_at W n (j_rem n 1024 (j_nx n q)) (j_nx n q < 2 ^ j_fst n) := by
  obtain ⟨a1, a2, a3, -, -, -⟩ := j_a4 hn hq (by omega) hs
  refine ⟨h.1, h.2.1, ?_, fun hlo => ?_⟩
  · have := h.2.2.1
    rw [j_rem_s hq (by omega)] at this
    split at this <;> omega
  · rcases a3 with a3 | a3
    · exact absurd a3 hne
    · omega
/-- one set to be added: the start -/
theorem j_add0 {W : Nat → Int} {n q : Nat} (hn : n < 1024) (hq : 1 ≤ q) (hs : j_ck n 1024 q = true) (hq2 : q ≤ 1023) (hb : q / 2 ^ j_fst n % 2 = 1) (h : j_at W n (j_rem n 1024 q) (q < 2 ^ j_fst n)) : j_at W n (j_sum W (11 * (n - q) + 0) (10 - 0) + j_rem n 1024 (j_nx n q)) (q ≤ 2 ^ j_fst n ∧ j_bits n ≤ 0) := by
  obtain ⟨a1, a2, -, -, -, -⟩ := j_a4 hn hq (by omega) hs
  have hr := h.1 (n - q) (by omega)
  have h10 : j_sum W (11 * (n - q)) 10 ≤ j_sum W (11 * (n - q)) 11 := j_sum_le hr.1 (by omega)
  refine ⟨h.1, h.2.1, ?_, fun hlo => ?_⟩
  · have h3 := h.2.2.1
    rw [j_rem_s hq (by omega), if_pos hb] at h3
    have := hr.2.1
    show j_sum W (11 * n) 11 + (j_sum W (11 * (n - q)) 10 + j_rem n 1024 (j_nx n q)) ≤ j_bell (j_bits n)
    omega
  · rcases (j_a2 hn).2.2.2 with h0 | h0
    · omega
    · omega
/-- one step of the adding -/
theorem j_add1 {W : Nat → Int} {n q e : Nat} (hn : n < 1024) (hq : 1 ≤ q) (hs : j_ck n 1024 q = true) (hq2 : q ≤ 1023) (he : e < 10) (h : j_at W n (j_sum W (11 * (n - q) + e) (10 - e) + j_rem n 1024 (j_nx n q)) (q ≤ 2 ^ j_fst n ∧ j_bits n ≤ e)) :
    j_at (fun j => if j = 11 * n + (e + 1) then W (11 * n + (e + 1)) + W (11 * (n - q) + e) else W j) n (j_sum (fun j => if j = 11 * n + (e + 1) then W (11 * n + (e + 1)) + W (11 * (n - q) + e) else W j) (11 * (n - q) + (e + 1)) (10 - (e + 1)) + j_rem n 1024 (j_nx n q)) (q ≤ 2 ^ j_fst n ∧ j_bits n ≤ e + 1) := by
  obtain ⟨a1, a2, -, -, -, -⟩ := j_a4 hn hq (by omega) hs
  have hr := h.1 (n - q) (by omega)
  have hre := hr.1 e (by omega)
  refine ⟨fun t ht => ?_, fun k hk => ?_, ?_, fun hlo => ?_⟩
  · exact j_ok_congr (j_a2 (n := t) (by omega)).1 (fun k hk => (if_neg (by omega)).symm) (h.1 t ht)
  · simp only
    split
    · have := h.2.1 (e + 1) (by omega)
      omega
    · exact h.2.1 k hk
  · have h3 := h.2.2.1
    rw [show 10 - e = (10 - (e + 1)) + 1 by omega, j_sum_hd (n := 10 - (e + 1)) (b := 11 * (n - q) + e)] at h3
    rw [j_sum_up (n := 11) (by omega), j_sum_congr (V := W) (b := 11 * (n - q) + (e + 1)) (fun k hk => if_neg (by omega))]
    rw [show 11 * (n - q) + (e + 1) = 11 * (n - q) + e + 1 by omega]
    omega
  · simp only
    have hn0 : (n = 0) → False := fun z => by omega
    rcases (j_a2 hn).2.2.2 with h0 | ⟨b1, b2, b3, b4⟩
    · exact (hn0 h0).elim
    have eq : q = 2 ^ j_fst n := by omega
    rw [← eq] at b4
    split
    · have := h.2.1 (e + 1) (by omega)
      have e1 : j_bits (n - q) = e := by omega
      have := hr.2.2
      rw [e1] at this
      omega
    · exact h.2.2.2 ⟨hlo.1, by omega⟩
/-- the adding is done -/
theorem j_add2 {W : Nat → Int} {n q : Nat} (hn : n < 1024) (hq : 1 ≤ q) (hq2 : q ≤ 1023) (hs : j_ck n 1024 q = true) (h : j_at W n (j_sum W (11 * (n - q) + 10) (10 - 10) + j_rem n 1024 (j_nx n q)) (q ≤ 2 ^ j_fst n ∧ j_bits n ≤ 10)) : j_at W n (j_rem n 1024 (j_nx n q)) (j_nx n q < 2 ^ j_fst n) := by
  obtain ⟨a1, a2, a3, -, -, -⟩ := j_a4 hn hq (by omega) hs
  refine ⟨h.1, h.2.1, ?_, fun hlo => ?_⟩
  · have h3 := h.2.2.1
    have e : j_sum W (11 * (n - q) + 10) (10 - 10) = 0 := rfl
    omega
  · have hb := (j_a2 hn).1
    refine h.2.2.2 ⟨?_, hb⟩
    rcases a3 with a3 | a3
    · omega
    · omega

/-! JOININGS: what is counted, by the kernel for all sets of ten -/
set_option maxRecDepth 100000 in
theorem j_t1 : (List.range 1024).all (fun n => decide (j_rem n 1024 n ≤ j_bell (j_bits n))) = true := by decide +kernel
set_option maxRecDepth 100000 in
theorem j_t2 : (List.range 1024).all (fun n => decide (j_bits n ≤ 10 ∧ j_fst n < 10 ∧ j_bell (j_bits n) ≤ 115975 ∧ (n = 0 ∨ (2 ^ j_fst n ≤ n ∧ n / 2 ^ j_fst n % 2 = 1 ∧ n % 2 ^ j_fst n = 0 ∧ j_bits (n - 2 ^ j_fst n) + 1 = j_bits n)))) = true := by decide +kernel
theorem j_a1 {n : Nat} (h : n < 1024) : j_rem n 1024 n ≤ j_bell (j_bits n) := of_decide_eq_true (List.all_eq_true.mp j_t1 n (List.mem_range.mpr h))
theorem j_a2 {n : Nat} (h : n < 1024) : j_bits n ≤ 10 ∧ j_fst n < 10 ∧ j_bell (j_bits n) ≤ 115975 ∧ (n = 0 ∨ (2 ^ j_fst n ≤ n ∧ n / 2 ^ j_fst n % 2 = 1 ∧ n % 2 ^ j_fst n = 0 ∧ j_bits (n - 2 ^ j_fst n) + 1 = j_bits n)) := of_decide_eq_true (List.all_eq_true.mp j_t2 n (List.mem_range.mpr h))
set_option maxRecDepth 100000 in
theorem j_t3a : (List.range 512).all (fun n => j_ck n 1024 n) = true := by decide +kernel
set_option maxRecDepth 100000 in
theorem j_t3b : (List.range 512).all (fun n => j_ck (512 + n) 1024 (512 + n)) = true := by decide +kernel
theorem j_a3 {n : Nat} (h : n < 1024) : j_ck n 1024 n = true := by
  by_cases h1 : n < 512
  · exact List.all_eq_true.mp j_t3a n (List.mem_range.mpr h1)
  · have := List.all_eq_true.mp j_t3b (n - 512) (List.mem_range.mpr (by omega))
    rw [show 512 + (n - 512) = n by omega] at this
    exact this
theorem j_ck_f (s : Nat) : ∀ (f f' o : Nat), o ≤ f → o ≤ f' → j_ck s f o = j_ck s f' o
  | 0, 0, o, _, _ => rfl
  | 0, f' + 1, o, h, _ => by
    have : o = 0 := by omega
    subst this
    simp [j_ck]
  | f + 1, 0, o, _, h => by
    have : o = 0 := by omega
    subst this
    simp [j_ck]
  | f + 1, f' + 1, o, h, h' => by
    unfold j_ck
    by_cases h0 : o = 0
    · subst h0
      rfl
    · have hx : j_nx s o ≤ o - 1 := Nat.and_le_left
      rw [j_ck_f s f f' (j_nx s o) (by omega) (by omega)]
/-- a part of a set -/
theorem j_a4 {n q : Nat} (hn : n < 1024) (hq : 1 ≤ q) (hq2 : q ≤ 1024) (h : j_ck n 1024 q = true) : 2 ^ j_fst n ≤ q ∧ q ≤ n ∧ (q = 2 ^ j_fst n ∨ 2 ^ j_fst n ≤ j_nx n q) ∧ (Int32.ofNat n &&& Int32.ofInt (-1 - q)).toInt = ((n - q : Nat) : Int) ∧ (Int32.ofInt ((q : Int) - 1) &&& Int32.ofNat n).toInt = (j_nx n q : Int) ∧ j_ck n 1024 (j_nx n q) = true := by
  have e : j_ck n 1024 q = (Nat.beq q 0 || (j_c1 n q && j_ck n 1023 (j_nx n q))) := rfl
  rw [e, Bool.or_eq_true] at h
  rcases h with h | h
  · have := Nat.eq_of_beq_eq_true h
    omega
  · rw [Bool.and_eq_true] at h
    obtain ⟨h1, h2⟩ := h
    unfold j_c1 at h1
    simp only [Bool.and_eq_true, Bool.or_eq_true, decide_eq_true_eq] at h1
    obtain ⟨a1, a2, a3, a4, a5⟩ := h1
    have hx : j_nx n q ≤ q - 1 := Nat.and_le_left
    refine ⟨Nat.le_of_ble_eq_true a1, Nat.le_of_ble_eq_true a2, ?_, a4, a5, by rw [← j_ck_f n 1023 1024 _ (by omega) (by omega)]; exact h2⟩
    rcases a3 with a3 | a3
    · exact Or.inl (Nat.eq_of_beq_eq_true a3)
    · exact Or.inr (Nat.le_of_ble_eq_true a3)

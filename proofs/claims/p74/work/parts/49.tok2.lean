/-! TOKENS OF ROWS AND BITS -/
section GH
variable {g : Int} {K : r_K}
def q_l (m : q_M) (c j : Nat) : Int := match q_at m c j with
  | .long z => z.toInt
  | _ => 0
theorem q_l_eq {m m1 : q_M} {c j : Nat} (h : q_at m1 c j = q_at m c j) : q_l m1 c j = q_l m c j := by
  unfold q_l
  rw [h]
/-- a three of the model's numbers is a child and a question -/
def r_3 (m : q_M) (s k : Nat) : Prop := (0 ≤ q_l m 116 (60 * s + 3 * k) ∧ q_l m 116 (60 * s + 3 * k) ≤ 19) ∧ 0 ≤ q_l m 116 (60 * s + 3 * k + 1) ∧ q_l m 116 (60 * s + 3 * k + 1) ≤ 5
/-- kinds: 0 rows of the class (60 .. 63), 1 the model's (70 .. 73), 2 the model's so far (74 .. 77), 3 bits -/
def r_kd (id : Nat) : Option (Nat × Nat) := match id with
  | 60 => some (0, 0) | 61 => some (0, 1) | 62 => some (0, 2) | 63 => some (0, 3)
  | 70 => some (1, 0) | 71 => some (1, 1) | 72 => some (1, 2) | 73 => some (1, 3)
  | 74 => some (2, 0) | 75 => some (2, 1) | 76 => some (2, 2) | 77 => some (2, 3)
  | 900 => some (3, 0) | 901 => some (3, 1) | 902 => some (3, 2) | 904 => some (3, 4) | 905 => some (3, 5) | 906 => some (3, 6)
  | _ => none
def r_F2 (K : r_K) (g : Int) (id : Nat) (zs : List Int) (m : q_M) : Prop := match r_kd id, zs with
  | some (0, r), [n] => ∀ i : Nat, (i : Int) < n → i < 20 → 0 ≤ q_l m (86 + 2 * r) (3 * i + 1) ∧ q_l m (86 + 2 * r) (3 * i + 1) ≤ 5
  | some (1, s), [] => ∀ k : Nat, ((3 * k : Nat) : Int) < q_i m 114 s → k < 20 → r_3 m s k
  | some (2, s), [i] => ∀ k : Nat, ((3 * k : Nat) : Int) < i → k < 20 → r_3 m s k
  | some (3, 0), [z, x, y] => ∃ a b : Int32, a.toInt = x ∧ b.toInt = y ∧ (a >>> (b &&& 31)).toInt = z
  | some (3, 1), [r, s] => ∃ a : Int32, a.toInt = s ∧ (a &&& 1).toInt = r
  | some (3, 2), [x, k] => ∃ n : Nat, k = n ∧ n ≤ 31 ∧ 0 ≤ x ∧ x % 2 ^ n = 0
  | some (3, 4), [x] => ∃ n : Nat, q_i m 93 19 = n ∧ n ≤ 10 ∧ x < 2 ^ n
  | some (3, 5), [a] => ∃ n : Nat, q_i m 93 19 = n ∧ n ≤ 10 ∧ a = 2 ^ n
  | some (3, 6), [z, y] => ∀ n : Nat, y = n → n ≤ 30 → z = 2 ^ n
  | some _, _ => True
  | none, zs => r_F3 g id zs m
def r_fp2 (id : Nat) : b_W := match r_kd id with
  | some (0, r) => [(86 + 2 * r, 0, 59)]
  | some (1, s) => [(114, s, s), (116, 60 * s, 60 * s + 59)]
  | some (2, s) => [(116, 60 * s, 60 * s + 59)]
  | some (3, 4) => [(93, 19, 19)]
  | some (3, 5) => [(93, 19, 19)]
  | some _ => []
  | none => r_fp3 id
theorem r_bgF2 {I : List b_I} (hI : r_Iok I) : bg_F I r_fp2 (r_F2 K g) := by
  intro id zs m m1 hI0 hI1 hp hF
  unfold r_fp2 at hp
  unfold r_F2 at hF ⊢
  split at hF
  · rename_i r n hk
    simp only [hk] at hp ⊢
    intro i h1 h2
    rw [q_l_eq (hp _ _ ⟨_, List.mem_singleton.mpr rfl, rfl, Nat.zero_le _, by show 3 * i + 1 ≤ 59; omega⟩)]
    exact hF i h1 h2
  · rename_i s hk
    simp only [hk] at hp ⊢
    intro k h1 h2
    rw [q_i_eq (hp _ _ ⟨_, List.mem_cons_self, rfl, Nat.le_refl _, Nat.le_refl _⟩)] at h1
    have h3 := hF k h1 h2
    unfold r_3 at h3 ⊢
    rw [q_l_eq (hp 116 (60 * s + 3 * k) ⟨_, List.mem_cons_of_mem _ List.mem_cons_self, rfl, by show 60 * s ≤ _; omega, by show _ ≤ 60 * s + 59; omega⟩), q_l_eq (hp 116 (60 * s + 3 * k + 1) ⟨_, List.mem_cons_of_mem _ List.mem_cons_self, rfl, by show 60 * s ≤ _; omega, by show _ ≤ 60 * s + 59; omega⟩)]
    exact h3
  · rename_i s i hk
    simp only [hk] at hp ⊢
    intro k h1 h2
    have h3 := hF k h1 h2
    unfold r_3 at h3 ⊢
    rw [q_l_eq (hp 116 (60 * s + 3 * k) ⟨_, List.mem_singleton.mpr rfl, rfl, by show 60 * s ≤ _; omega, by show _ ≤ 60 * s + 59; omega⟩), q_l_eq (hp 116 (60 * s + 3 * k + 1) ⟨_, List.mem_singleton.mpr rfl, rfl, by show 60 * s ≤ _; omega, by show _ ≤ 60 * s + 59; omega⟩)]
    exact h3
  · exact hF
  · exact hF
  · exact hF
  · rename_i hk
    simp only [hk] at hp ⊢
    rw [q_i_eq (hp 93 19 ⟨_, List.mem_singleton.mpr rfl, rfl, Nat.le_refl _, Nat.le_refl _⟩)]
    exact hF
  · rename_i hk
    simp only [hk] at hp ⊢
    rw [q_i_eq (hp 93 19 ⟨_, List.mem_singleton.mpr rfl, rfl, Nat.le_refl _, Nat.le_refl _⟩)]
    exact hF
  · exact hF
  · trivial
  · rename_i hk
    simp only [hk] at hp ⊢
    exact r_bgF3 hI id _ m m1 hI0 hI1 hp hF
end GH

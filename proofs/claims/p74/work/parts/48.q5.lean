/-! TOKENS OF THE READING'S END: at (93, 8), token (93, 10), faultKind (93, 12), tape (97), fresh (99) of the reference; g: a place of the text -/
section T5
variable {g : Int}
def r_lo (x : Int) : Int := (Int32.ofInt x &&& 255).toInt
def r_F5 (g : Int) (id : Nat) (zs : List Int) (m : q_M) : Prop := match id, zs with
  | 120, [] => g ≤ q_i m 93 8
  | 121, [] => g < q_i m 93 8
  | 122, [] => g < q_i m 93 8 ∨ q_i m 93 10 = 0
  | 123, [] => g < q_i m 93 8 ∨ q_i m 93 10 = 0 ∨ q_i m 93 12 ≠ 0
  | 124, [c] => 0 ≤ q_i m 93 8 ∧ q_i m 93 8 < 1200 ∧ r_lo (q_i m 97 (q_i m 93 8).toNat) = c
  | 125, [] => q_i m 93 10 = 0 ∨ q_i m 93 12 ≠ 0
  | 126, [c] => ∀ j : Nat, (j : Int) < c → j < 277 → q_i m 99 j = 0
  | 127, [r, s] => r = r_lo s
  | id, zs => r_F6 g id zs m
def r_kd5 (id : Nat) : Bool := match id with
  | 120 => true | 121 => true | 122 => true | 123 => true | 124 => true | 125 => true | 126 => true | 127 => true
  | _ => false
theorem r_F5_no {id : Nat} {zs : List Int} {m : q_M} (h : r_kd5 id = false) (h6 : r_k6 id = 0) : r_F5 g id zs m := by
  unfold r_F5
  split <;> first | (unfold r_F6; rw [h6]; trivial) | (exfalso; revert h; decide)
def r_fp5 (id : Nat) : b_W := match id with
  | 120 => [(93, 8, 8)]
  | 121 => [(93, 8, 8)]
  | 122 => [(93, 8, 8), (93, 10, 10)]
  | 123 => [(93, 8, 8), (93, 10, 10), (93, 12, 12)]
  | 124 => [(93, 8, 8), (97, 0, 1199)]
  | 125 => [(93, 10, 10), (93, 12, 12)]
  | 126 => [(99, 0, 276)]
  | 127 => []
  | id => r_fp6 id
theorem r_bgF5 {I : List b_I} : bg_F I r_fp5 (r_F5 g) := by
  intro id zs m m1 hM hM1 hp hF
  have e8 : b_plW (r_fp5 id) 93 8 → q_i m1 93 8 = q_i m 93 8 := fun h => q_i_eq (hp _ _ h)
  have e10 : b_plW (r_fp5 id) 93 10 → q_i m1 93 10 = q_i m 93 10 := fun h => q_i_eq (hp _ _ h)
  have e12 : b_plW (r_fp5 id) 93 12 → q_i m1 93 12 = q_i m 93 12 := fun h => q_i_eq (hp _ _ h)
  unfold r_F5 at hF ⊢
  split at hF
  · rw [e8 ⟨(93, 8, 8), by simp [r_fp5], rfl, Nat.le_refl _, Nat.le_refl _⟩]
    exact hF
  · rw [e8 ⟨(93, 8, 8), by simp [r_fp5], rfl, Nat.le_refl _, Nat.le_refl _⟩]
    exact hF
  · rw [e8 ⟨(93, 8, 8), by simp [r_fp5], rfl, Nat.le_refl _, Nat.le_refl _⟩, e10 ⟨(93, 10, 10), by simp [r_fp5], rfl, Nat.le_refl _, Nat.le_refl _⟩]
    exact hF
  · rw [e8 ⟨(93, 8, 8), by simp [r_fp5], rfl, Nat.le_refl _, Nat.le_refl _⟩, e10 ⟨(93, 10, 10), by simp [r_fp5], rfl, Nat.le_refl _, Nat.le_refl _⟩, e12 ⟨(93, 12, 12), by simp [r_fp5], rfl, Nat.le_refl _, Nat.le_refl _⟩]
    exact hF
  · obtain ⟨h1, h2, h3⟩ := hF
    rw [e8 ⟨(93, 8, 8), by simp [r_fp5], rfl, Nat.le_refl _, Nat.le_refl _⟩]
    refine ⟨h1, h2, ?_⟩
    rw [q_i_eq (hp 97 _ ⟨(97, 0, 1199), by simp [r_fp5], rfl, Nat.zero_le _, by show _ ≤ 1199; omega⟩)]
    exact h3
  · rw [e10 ⟨(93, 10, 10), by simp [r_fp5], rfl, Nat.le_refl _, Nat.le_refl _⟩, e12 ⟨(93, 12, 12), by simp [r_fp5], rfl, Nat.le_refl _, Nat.le_refl _⟩]
    exact hF
  · intro j h1 h2
    rw [q_i_eq (hp 99 j ⟨(99, 0, 276), by simp [r_fp5], rfl, Nat.zero_le _, by show _ ≤ 276; omega⟩)]
    exact hF j h1 h2
  · exact hF
  · cases hk : r_kd5 id with
    | false =>
      have e : r_fp5 id = r_fp6 id := by
        unfold r_fp5
        unfold r_kd5 at hk
        split <;> first | rfl | (exfalso; revert hk; decide)
      rw [e] at hp
      exact r_bgF6 id zs m m1 hM hM1 hp hF
    | true =>
      unfold r_kd5 at hk
      split at hk <;> first | (cases hk; done) | trivial
end T5

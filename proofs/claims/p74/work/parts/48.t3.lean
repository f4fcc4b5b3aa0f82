/-! TOKENS OF THE MARRIAGES: wife (108), askedBy (109), husband (110), queue (111) of the reference; g: the girl from whom one goes out -/
section T3
variable {g : Int}
/-- husbands are the wives' but for one -/
def z_inv (W H : Nat → Int) (ex : Int) : Prop := ∀ b : Nat, b < 20 → (b : Int) ≠ ex → ∀ k : Nat, k < 20 → W b = k → H k = b
/-- how many girls have a husband who is asked -/
def z_cg (A H : Nat → Int) : Nat → Nat
  | 0 => 0
  | n + 1 => z_cg A H n + (if 0 ≤ H n ∧ 0 ≤ A (H n).toNat then 1 else 0)
def z_ca (A : Nat → Int) : Nat → Nat
  | 0 => 0
  | n + 1 => z_ca A n + (if 0 ≤ A n then 1 else 0)
/-- ranks: those asked behind the girl who asks, she behind her own husband; below a limit -/
def z_rk (A H : Nat → Int) (g : Int) (rb rg : Nat → Nat) (rk : Nat → Prop) (lim : Nat) : Prop :=
  (∀ b : Nat, b < 20 → ∀ k : Nat, k < 20 → A b = k → rk k ∧ rg k < rb b)
  ∧ ∀ k : Nat, k < 20 → rk k → rg k < lim → (k : Int) ≤ g ∧ (H k = -1 ∨ ∃ b : Nat, b < 20 ∧ H k = b ∧ 0 ≤ A b ∧ rb b < rg k)
/-- the search: the queue's girls have ranks; P: what else -/
def z_bf (W A H Q : Nat → Int) (g : Int) (last : Int) (d : Nat) (P : (Nat → Prop) → Prop) : Prop := z_inv W H (-1) ∧ (0 ≤ g ∧ g < 20) ∧ (∀ k : Nat, k < 20 → g ≤ k → H k = -1)
  ∧ (∀ b : Nat, b < 20 → -1 ≤ A b ∧ A b < 20 ∧ -1 ≤ W b ∧ W b < 20 ∧ -1 ≤ H b ∧ H b < 20)
  ∧ ∃ (rb rg : Nat → Nat) (rk : Nat → Prop) (T : Nat), z_rk A H g rb rg rk 1000 ∧ (∀ b : Nat, b < 20 → 0 ≤ A b → rb b < T) ∧ (∀ k : Nat, k < 20 → rk k → rg k < T) ∧ T + d ≤ 1 + 2 * z_ca A 20
    ∧ (∀ j : Nat, j < 20 → (j : Int) < last → ∃ k : Nat, k < 20 ∧ Q j = k ∧ rk k) ∧ P rk
def r_kd3 (id : Nat) : Bool := match id with
  | 80 => true | 81 => true | 82 => true | 85 => true | 86 => true | 87 => true | 88 => true | 89 => true | 90 => true | 91 => true | 92 => true | 93 => true
  | _ => false
def r_F3 (g : Int) (id : Nat) (zs : List Int) (m : q_M) : Prop := match id, zs with
  | 80, [x] => z_inv (q_i m 108) (q_i m 110) (-1) ∧ ∀ k : Nat, k < 20 → x ≤ k → q_i m 110 k = -1
  | 85, [l] => z_bf (q_i m 108) (q_i m 109) (q_i m 110) (q_i m 111) g l 0 (fun _ => True) ∧ l ≤ 1 + z_cg (q_i m 109) (q_i m 110) 20
  | 81, [gg, l] => z_bf (q_i m 108) (q_i m 109) (q_i m 110) (q_i m 111) g l 0 (fun rk => ∃ k : Nat, k < 20 ∧ gg = k ∧ rk k) ∧ l ≤ 1 + z_cg (q_i m 109) (q_i m 110) 20
  | 86, [gg, b, l] => z_bf (q_i m 108) (q_i m 109) (q_i m 110) (q_i m 111) g l 1 (fun rk => ∃ k : Nat, k < 20 ∧ gg = k ∧ rk k) ∧ ∃ n : Nat, n < 20 ∧ b = n ∧ 0 ≤ q_i m 109 n ∧ (0 ≤ q_i m 108 n → l ≤ z_cg (q_i m 109) (q_i m 110) 20) ∧ ∀ k : Nat, k < 20 → q_i m 110 k = n → True
  | 82, [b, r] => z_inv (q_i m 108) (q_i m 110) b ∧ (∀ k : Nat, k < 20 → g < k → q_i m 110 k = -1) ∧ (∀ k : Nat, k < 20 → -1 ≤ q_i m 110 k ∧ q_i m 110 k < 20)
    ∧ (0 ≤ b → ∃ (n : Nat) (rb rg : Nat → Nat) (rk : Nat → Prop), b = n ∧ n < 20 ∧ (∃ k : Nat, k < 20 ∧ q_i m 109 n = k) ∧ (∀ j : Nat, j < 20 → q_i m 109 j < 20) ∧ z_rk (q_i m 109) (q_i m 110) g rb rg rk (rb n) ∧ (rb n : Int) ≤ r)
  | 87, [] => z_inv (q_i m 108) (q_i m 110) (-1) ∧ ∀ k : Nat, k < 20 → g < k → q_i m 110 k = -1
  | 88, [] => z_inv (q_i m 108) (q_i m 110) (-1) ∧ ∀ k : Nat, k < 20 → g ≤ k → q_i m 110 k = -1
  | 89, [x] => x = g ∧ 0 ≤ g ∧ g < 20
  | 90, [c] => ∀ k : Nat, k < 20 → (k : Int) < c → q_i m 108 k = -1 ∧ q_i m 110 k = -1
  | 91, [c] => (∀ k : Nat, k < 20 → (k : Int) < c → q_i m 108 k = -1 ∧ q_i m 110 k = -1) ∧ ∀ k : Nat, k < 20 → (k : Int) = c → q_i m 108 k = -1
  | 92, [c] => ∀ k : Nat, k < 20 → (k : Int) < c → q_i m 109 k = -1
  | 93, [b, gg, r] => ∃ n k : Nat, n < 20 ∧ k < 20 ∧ b = n ∧ gg = k ∧ q_i m 108 n = k ∧ q_i m 109 n = k ∧ z_inv (q_i m 108) (q_i m 110) b ∧ (∀ k : Nat, k < 20 → g < k → q_i m 110 k = -1) ∧ (∀ k : Nat, k < 20 → -1 ≤ q_i m 110 k ∧ q_i m 110 k < 20)
    ∧ (∀ j : Nat, j < 20 → q_i m 109 j < 20) ∧ ∃ (rb rg : Nat → Nat) (rk : Nat → Prop), z_rk (q_i m 109) (q_i m 110) g rb rg rk (rb n) ∧ (rb n : Int) ≤ r
  | id, zs => r_F5 g id zs m
def r_fp3 (id : Nat) : b_W := match r_kd3 id with
  | true => (match id with
    | 89 => []
    | 80 => [(108, 0, 19), (110, 0, 19)]
    | 87 => [(108, 0, 19), (110, 0, 19)]
    | 88 => [(108, 0, 19), (110, 0, 19)]
    | 90 => [(108, 0, 19), (110, 0, 19)]
    | 91 => [(108, 0, 19), (110, 0, 19)]
    | 92 => [(109, 0, 19)]
    | _ => [(108, 0, 19), (109, 0, 19), (110, 0, 19), (111, 0, 19)])
  | false => r_fp5 id
/-- the rows of the marriages -/
def r_Iok (I : List b_I) : Prop := I[108]? = some (.inl (0, 20, .inl ([], -1, 19))) ∧ I[109]? = some (.inl (0, 20, .inl ([], -1, 19))) ∧ I[110]? = some (.inl (0, 20, .inl ([], -1, 19))) ∧ I[111]? = some (.inl (0, 20, .inl ([], 0, 19))) ∧ I.length ≤ 200 ∧ ∀ x ∈ I, bi_sz 20000 x
theorem z_fun {I : List b_I} {m m1 : q_M} {c : Nat} {lo hi : Int} (hI : I[c]? = some (.inl (0, 20, .inl ([], lo, hi)))) (hM : bi_M I m) (hM1 : bi_M I m1) (h : ∀ j, j ≤ 19 → q_at m1 c j = q_at m c j) : q_i m1 c = q_i m c := by
  obtain ⟨y, hy, f, rfl, -, -, hf⟩ := bi_get hM hI
  obtain ⟨y1, hy1, f1, rfl, -, -, hf1⟩ := bi_get hM1 hI
  funext j
  by_cases hj : j ≤ 19
  · exact q_i_eq (h j hj)
  · apply q_i_eq
    rw [q_at_int hy, q_at_int hy1, hf j (by omega), hf1 j (by omega)]
theorem z_bd {I : List b_I} {m : q_M} {c : Nat} {lo hi : Int} (hI : I[c]? = some (.inl (0, 20, .inl ([], lo, hi)))) (hM : bi_M I m) : ∀ j, j < 20 → lo ≤ q_i m c j ∧ q_i m c j ≤ hi := by
  obtain ⟨y, hy, f, rfl, hb, -, -⟩ := bi_get hM hI
  intro j hj
  have := hb j hj
  unfold q_i
  rw [q_at_int hy]
  exact this
theorem r_bgF3 {I : List b_I} (hI : r_Iok I) : bg_F I r_fp3 (r_F3 g) := by
  intro id zs m m1 hM hM1 hp hF
  have e8 : (∀ j, j ≤ 19 → b_plW (r_fp3 id) 108 j) → q_i m1 108 = q_i m 108 := fun hh => z_fun hI.1 hM hM1 (fun j hj => hp 108 j (hh j hj))
  have e9 : (∀ j, j ≤ 19 → b_plW (r_fp3 id) 109 j) → q_i m1 109 = q_i m 109 := fun hh => z_fun hI.2.1 hM hM1 (fun j hj => hp 109 j (hh j hj))
  have e10 : (∀ j, j ≤ 19 → b_plW (r_fp3 id) 110 j) → q_i m1 110 = q_i m 110 := fun hh => z_fun hI.2.2.1 hM hM1 (fun j hj => hp 110 j (hh j hj))
  have e11 : (∀ j, j ≤ 19 → b_plW (r_fp3 id) 111 j) → q_i m1 111 = q_i m 111 := fun hh => z_fun hI.2.2.2.1 hM hM1 (fun j hj => hp 111 j (hh j hj))
  have a4 : ∀ c j : Nat, j ≤ 19 → c = 108 ∨ c = 109 ∨ c = 110 ∨ c = 111 → b_plW [(108, 0, 19), (109, 0, 19), (110, 0, 19), (111, 0, 19)] c j := by
    intro c j hj hc
    rcases hc with rfl | rfl | rfl | rfl
    · exact ⟨(108, 0, 19), by simp, rfl, Nat.zero_le _, hj⟩
    · exact ⟨(109, 0, 19), by simp, rfl, Nat.zero_le _, hj⟩
    · exact ⟨(110, 0, 19), by simp, rfl, Nat.zero_le _, hj⟩
    · exact ⟨(111, 0, 19), by simp, rfl, Nat.zero_le _, hj⟩
  have a2 : ∀ c j : Nat, j ≤ 19 → c = 108 ∨ c = 110 → b_plW [(108, 0, 19), (110, 0, 19)] c j := by
    intro c j hj hc
    rcases hc with rfl | rfl
    · exact ⟨(108, 0, 19), by simp, rfl, Nat.zero_le _, hj⟩
    · exact ⟨(110, 0, 19), by simp, rfl, Nat.zero_le _, hj⟩
  unfold r_F3 at hF ⊢
  split at hF
  · rw [e8 (fun j hj => a2 108 j hj (by simp)), e10 (fun j hj => a2 110 j hj (by simp))]
    exact hF
  · rw [e8 (fun j hj => a4 108 j hj (by simp)), e9 (fun j hj => a4 109 j hj (by simp)), e10 (fun j hj => a4 110 j hj (by simp)), e11 (fun j hj => a4 111 j hj (by simp))]
    exact hF
  · rw [e8 (fun j hj => a4 108 j hj (by simp)), e9 (fun j hj => a4 109 j hj (by simp)), e10 (fun j hj => a4 110 j hj (by simp)), e11 (fun j hj => a4 111 j hj (by simp))]
    exact hF
  · rw [e8 (fun j hj => a4 108 j hj (by simp)), e9 (fun j hj => a4 109 j hj (by simp)), e10 (fun j hj => a4 110 j hj (by simp)), e11 (fun j hj => a4 111 j hj (by simp))]
    exact hF
  · rw [e8 (fun j hj => a4 108 j hj (by simp)), e9 (fun j hj => a4 109 j hj (by simp)), e10 (fun j hj => a4 110 j hj (by simp))]
    exact hF
  · rw [e8 (fun j hj => a2 108 j hj (by simp)), e10 (fun j hj => a2 110 j hj (by simp))]
    exact hF
  · rw [e8 (fun j hj => a2 108 j hj (by simp)), e10 (fun j hj => a2 110 j hj (by simp))]
    exact hF
  · exact hF
  · rw [e8 (fun j hj => a2 108 j hj (by simp)), e10 (fun j hj => a2 110 j hj (by simp))]
    exact hF
  · rw [e8 (fun j hj => a2 108 j hj (by simp)), e10 (fun j hj => a2 110 j hj (by simp))]
    exact hF
  · rw [e9 (fun j hj => ⟨(109, 0, 19), List.mem_singleton.mpr rfl, rfl, Nat.zero_le _, hj⟩)]
    exact hF
  · rw [e8 (fun j hj => a4 108 j hj (by simp)), e9 (fun j hj => a4 109 j hj (by simp)), e10 (fun j hj => a4 110 j hj (by simp))]
    exact hF
  · cases hk : r_kd3 id with
    | false =>
      have e : r_fp3 id = r_fp5 id := by
        unfold r_fp3
        rw [hk]
      rw [e] at hp
      exact r_bgF5 id zs m m1 hM hM1 hp hF
    | true =>
      unfold r_kd3 at hk
      split at hk <;> first | (cases hk; done) | exact r_F5_no rfl rfl
end T3

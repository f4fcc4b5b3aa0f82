/-! TOKENS OF THE JOININGS: girlsOf (101), boysOf (102), isBoy (103), ways (104), mayBe (107), toldMany (93, 19), oneOf (93, 20) of the reference -/
def q_i (m : q_M) (c j : Nat) : Int := match q_at m c j with
  | .int z => z.toInt
  | _ => 0
theorem q_i_eq {m m1 : q_M} {c j : Nat} (h : q_at m1 c j = q_at m c j) : q_i m1 c j = q_i m c j := by
  unfold q_i
  rw [h]
/-- a row, nothing behind its end -/
def q_w (m : q_M) (c n j : Nat) : Int := if j < n then q_i m c j else 0
theorem q_w_at {m : q_M} {c n j : Nat} (h : j < n) : q_w m c n j = q_i m c j := if_pos h
theorem q_w_eq {m m1 : q_M} {c n : Nat} (h : ∀ j, j < n → q_at m1 c j = q_at m c j) : q_w m1 c n = q_w m c n := by
  funext j
  unfold q_w
  split
  · exact q_i_eq (h j (by assumption))
  · rfl
theorem q_w_up {m m1 : q_M} {c n j : Nat} (hj : j < n) (h : ∀ k, k ≠ j → q_at m1 c k = q_at m c k) : q_w m1 c n = fun k => if k = j then q_i m1 c j else q_w m c n k := by
  funext k
  by_cases e : k = j
  · subst e
    simp only [if_pos rfl]
    exact q_w_at hj
  · rw [if_neg e]
    unfold q_w
    split
    · exact q_i_eq (h k e)
    · rfl
/-- how many bits; the lowest; Bell's numbers -/
def j_bits (n : Nat) : Nat := n % 2 + n / 2 % 2 + n / 4 % 2 + n / 8 % 2 + n / 16 % 2 + n / 32 % 2 + n / 64 % 2 + n / 128 % 2 + n / 256 % 2 + n / 512 % 2
def j_fst (n : Nat) : Nat := if n % 2 = 1 then 0 else if n / 2 % 2 = 1 then 1 else if n / 4 % 2 = 1 then 2 else if n / 8 % 2 = 1 then 3 else if n / 16 % 2 = 1 then 4 else if n / 32 % 2 = 1 then 5 else if n / 64 % 2 = 1 then 6 else if n / 128 % 2 = 1 then 7 else if n / 256 % 2 = 1 then 8 else 9
def j_bell (b : Nat) : Nat := match b with
  | 0 => 1 | 1 => 1 | 2 => 2 | 3 => 5 | 4 => 15 | 5 => 52 | 6 => 203 | 7 => 877 | 8 => 4140 | 9 => 21147
  | _ => 115975
def j_nx (s o : Nat) : Nat := Nat.land (o - 1) s
/-- what is still to be added, at most -/
def j_rem (s : Nat) : Nat → Nat → Nat
  | 0, _ => 0
  | f + 1, o => if o = 0 then 0 else (if o / 2 ^ j_fst s % 2 = 1 then j_bell (j_bits (s - o)) else 0) + j_rem s f (j_nx s o)
/-- what holds of a set and a part of it, and of the parts behind it -/
def j_c1 (n o : Nat) : Bool := Nat.ble (2 ^ j_fst n) o && (Nat.ble o n && ((Nat.beq o (2 ^ j_fst n) || Nat.ble (2 ^ j_fst n) (j_nx n o)) && (decide ((Int32.ofNat n &&& Int32.ofInt (-1 - o)).toInt = ((n - o : Nat) : Int)) && decide ((Int32.ofInt ((o : Int) - 1) &&& Int32.ofNat n).toInt = (j_nx n o : Int)))))
def j_ck (n : Nat) : Nat → Nat → Bool
  | 0, _ => true
  | f + 1, o => Nat.beq o 0 || (j_c1 n o && j_ck n f (j_nx n o))
def j_sum (W : Nat → Int) (b : Nat) : Nat → Int
  | 0 => 0
  | n + 1 => j_sum W b n + W (b + n)
def j_ok (W : Nat → Int) (t : Nat) : Prop := (∀ k, k < 11 → 0 ≤ W (11 * t + k)) ∧ j_sum W (11 * t) 11 ≤ j_bell (j_bits t) ∧ 1 ≤ W (11 * t + j_bits t)
/-- rows before are good; this one so far: x is what may still come -/
def j_at (W : Nat → Int) (n : Nat) (x : Int) (lo : Prop) : Prop := (∀ t, t < n → j_ok W t) ∧ (∀ k, k < 11 → 0 ≤ W (11 * n + k)) ∧ j_sum W (11 * n) 11 + x ≤ j_bell (j_bits n) ∧ (lo → 1 ≤ W (11 * n + j_bits n))
def r_Pa (g : Int) (id : Nat) (zs : List Int) : Prop := match id, zs with
  | 136, [s] => s = g
  | 154, [s, f] => ∃ n : Nat, s = n ∧ 1 ≤ n ∧ n < 1024 ∧ f = j_fst n
  | 156, [z, x, y] => ∃ a b : Int32, a.toInt = x ∧ b.toInt = y ∧ (a &&& b).toInt = z
  | 158, [s, o] => ∃ n q : Nat, s = n ∧ o = q ∧ q < 1024 ∧ g = 1024 * n + q
  | 160, [s, o] => ∃ n q : Nat, s = n ∧ o = q ∧ q / 2 ^ j_fst n % 2 = 1
  | _, _ => True
def r_Pb (id : Nat) (zs : List Int) (O : Int) : Prop := match id, zs with
  | 140, [] => O = -1
  | _, _ => True
def r_Pc (g : Int) (id : Nat) (zs : List Int) (N : Int) (G Y B : Nat → Int) : Prop := match id, zs with
  | 134, [c] => ∀ i : Nat, (i : Int) < c → i < 10 → 1 ≤ G i + B i ∧ B i ≤ Y i
  | 144, [] => ∀ i : Nat, (i : Int) < N → i < 10 → 1 ≤ G i + B i ∧ B i ≤ Y i
  | 137, [r] => ∀ k : Nat, k < 10 → (k : Int) < N → g = (2 ^ k : Nat) → r ≠ 0
  | 138, [s, r] => ∀ k : Nat, k < 10 → (k : Int) < N → s = (2 ^ k : Nat) → r ≠ 0
  | 139, [f, u, b, i] => ∀ k : Nat, k < 10 → (k : Int) < N → g = (2 ^ k : Nat) → (i ≤ k → f = -1 ∧ u = 0 ∧ b = 0) ∧ (k < i → f = k ∧ u = 1 - B k ∧ b = B k)
  | _, _ => True
def r_Pd (id : Nat) (zs : List Int) (N : Int) (Y : Nat → Int) : Prop := match id, zs with
  | 135, [s] => ∀ k : Nat, k < 10 → (k : Int) < N → ((2 ^ k : Nat) : Int) < s → Y (2 ^ k) ≠ 0
  | _, _ => True
def r_Pe (g : Int) (id : Nat) (zs : List Int) (N : Int) (W : Nat → Int) : Prop := match id, zs with
  | 150, [s] => ∀ t : Nat, (t : Int) < s → t < 1024 → j_ok W t
  | 151, [s, c] => ∃ n : Nat, s = n ∧ n < 1024 ∧ (∀ t, t < n → j_ok W t) ∧ ∀ k : Nat, (k : Int) < c → k < 11 → W (11 * n + k) = if n = 0 ∧ k = 0 then 1 else 0
  | 152, [s, o] => ∃ n q : Nat, s = n ∧ o = q ∧ n < 1024 ∧ j_ck n 1024 q = true ∧ j_at W n (j_rem n 1024 q) (q < 2 ^ j_fst n)
  | 153, [s, o] => ∃ n q : Nat, s = n ∧ o = q ∧ n < 1024 ∧ 1 ≤ q ∧ j_ck n 1024 q = true ∧ j_at W n (j_rem n 1024 (j_nx n q)) (j_nx n q < 2 ^ j_fst n)
  | 157, [s, o, r, c] => ∃ n q e : Nat, s = n ∧ o = q ∧ r = ((n - q : Nat) : Int) ∧ c = e ∧ e ≤ 10 ∧ n < 1024 ∧ 1 ≤ q ∧ j_ck n 1024 q = true ∧ g = 1024 * n + q ∧ j_at W n (j_sum W (11 * (n - q) + e) (10 - e) + j_rem n 1024 (j_nx n q)) (q ≤ 2 ^ j_fst n ∧ j_bits n ≤ e)
  | 161, [] => ∃ n q : Nat, g = 1024 * n + q ∧ q < 1024 ∧ n < 1024 ∧ 1 ≤ q ∧ j_ck n 1024 q = true ∧ j_at W n (j_rem n 1024 (j_nx n q)) (j_nx n q < 2 ^ j_fst n)
  | 130, [] => ∃ n : Nat, N = n ∧ n ≤ 10 ∧ j_ok W (2 ^ n - 1)
  | 131, [c] => ∃ n : Nat, N = n ∧ n ≤ 10 ∧ ∃ k : Nat, k < 11 ∧ c ≤ k ∧ W (11 * (2 ^ n - 1) + k) ≠ 0
  | 132, [c] => ∃ n : Nat, N = n ∧ n ≤ 10 ∧ ∃ k : Nat, k < 11 ∧ k ≤ c ∧ W (11 * (2 ^ n - 1) + k) ≠ 0
  | 133, [c, s] => ∃ n e : Nat, N = n ∧ n ≤ 10 ∧ c = e ∧ e ≤ 11 ∧ s = j_sum W (11 * (2 ^ n - 1)) e ∧ j_ok W (2 ^ n - 1)
  | _, _ => True
def r_k6 (id : Nat) : Nat := match id with
  | 136 => 1 | 154 => 1 | 156 => 1 | 158 => 1 | 160 => 1
  | 140 => 2
  | 134 => 3 | 144 => 3 | 137 => 3 | 138 => 3 | 139 => 3
  | 135 => 4
  | 150 => 5 | 151 => 5 | 152 => 5 | 153 => 5 | 157 => 5 | 161 => 5 | 130 => 5 | 131 => 5 | 132 => 5 | 133 => 5
  | _ => 0
def r_F6 (g : Int) (id : Nat) (zs : List Int) (m : q_M) : Prop := match r_k6 id with
  | 1 => r_Pa g id zs
  | 2 => r_Pb id zs (q_i m 93 20)
  | 3 => r_Pc g id zs (q_i m 93 19) (q_w m 101 10) (q_w m 102 10) (q_w m 103 10)
  | 4 => r_Pd id zs (q_i m 93 19) (q_w m 107 1024)
  | 5 => r_Pe g id zs (q_i m 93 19) (q_w m 104 11264)
  | _ => True
def r_fp6 (id : Nat) : b_W := match r_k6 id with
  | 2 => [(93, 20, 20)]
  | 3 => [(93, 19, 19), (101, 0, 9), (102, 0, 9), (103, 0, 9)]
  | 4 => [(93, 19, 19), (107, 0, 1023)]
  | 5 => [(93, 19, 19), (104, 0, 11263)]
  | _ => []
theorem r_bgF6 {g : Int} {I : List b_I} : bg_F I r_fp6 (r_F6 g) := by
  intro id zs m m1 hM hM1 hp hF
  unfold r_F6 at hF ⊢
  unfold r_fp6 at hp
  split at hF
  · exact hF
  · rename_i hk
    simp only [hk] at hp ⊢
    rw [q_i_eq (hp 93 20 ⟨(93, 20, 20), by simp, rfl, Nat.le_refl _, Nat.le_refl _⟩)]
    exact hF
  · rename_i hk
    simp only [hk] at hp ⊢
    rw [q_i_eq (hp 93 19 ⟨(93, 19, 19), by simp, rfl, Nat.le_refl _, Nat.le_refl _⟩), q_w_eq (c := 101) (n := 10) (fun j hj => hp 101 j ⟨(101, 0, 9), by simp, rfl, Nat.zero_le _, by show j ≤ 9; omega⟩), q_w_eq (c := 102) (n := 10) (fun j hj => hp 102 j ⟨(102, 0, 9), by simp, rfl, Nat.zero_le _, by show j ≤ 9; omega⟩), q_w_eq (c := 103) (n := 10) (fun j hj => hp 103 j ⟨(103, 0, 9), by simp, rfl, Nat.zero_le _, by show j ≤ 9; omega⟩)]
    exact hF
  · rename_i hk
    simp only [hk] at hp ⊢
    rw [q_i_eq (hp 93 19 ⟨(93, 19, 19), by simp, rfl, Nat.le_refl _, Nat.le_refl _⟩), q_w_eq (c := 107) (n := 1024) (fun j hj => hp 107 j ⟨(107, 0, 1023), by simp, rfl, Nat.zero_le _, by show j ≤ 1023; omega⟩)]
    exact hF
  · rename_i hk
    simp only [hk] at hp ⊢
    rw [q_i_eq (hp 93 19 ⟨(93, 19, 19), by simp, rfl, Nat.le_refl _, Nat.le_refl _⟩), q_w_eq (c := 104) (n := 11264) (fun j hj => hp 104 j ⟨(104, 0, 11263), by simp, rfl, Nat.zero_le _, by show j ≤ 11263; omega⟩)]
    exact hF
  · trivial

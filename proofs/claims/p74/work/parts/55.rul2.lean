/-! RULES OF ROWS AND BITS -/
section GH
variable {g : Int} {K : r_K}
def b_fml (E : b_E) (c : Nat) (t : b_T) : Option b_T := match b_mo E.2.2.2.1 c t with
  | some (true, e) => some e
  | _ => none
def r_pl3 (t : b_T) (d : Int) : b_T := b_ad (b_c d) 3 t
def r_un3 (p : b_T) (d : Int) : b_T := (b_dv 3 p.1, (p.2 - d) / 3)
def r_btw (E : b_E) (o : Option b_T) (hi : Int) : Bool := match o with
  | some e => r_ge E e (b_c 0) 0 && r_ge E (b_c hi) e 0
  | none => false
def r_hav2 (E : b_E) (id : Nat) (us : List b_T) : Bool := match r_kd id, us with
  | some (0, r), [n] => r_ge E (b_c 0) n 0 || r_any E id (fun w => match w with | [t] => r_ge E t n 0 || (decide (n = r_sft t 1) && r_btw E (b_fml E (86 + 2 * r) (r_pl3 t 1)) 5) | _ => false)
  | some (1, s), [] => (match b_fm E 114 (b_c (s : Int)) with
    | some n => r_any E (74 + s) (fun w => match w with | [t] => r_ge E t n 0 | _ => false)
    | none => false)
  | some (2, s), [n] => r_ge E (b_c 0) n 0 || r_any E id (fun w => match w with
    | [t] => decide (n = r_sft t 3) && (match r_un3 t 0 with | k => decide (r_pl3 k 0 = t) && (b_iv E.2.1 k).isSome) && r_btw E (b_fml E 116 (r_sft t (60 * s : Nat))) 19 && r_btw E (b_fml E 116 (r_sft t (60 * s + 1 : Nat))) 5
    | _ => false)
  | some (3, 2), [x, k] => r_ge E x (b_c 0) 0 && (decide (k = b_c 0) || r_any E 902 (fun w => match w with
    | [x0, k0] => decide (x0 = x ∧ k = r_sft k0 1) && r_ge E (b_c 30) k0 0 && r_any E 900 (fun y => match y with
      | [s, x1, k1] => decide (x1 = x ∧ k1 = k0) && r_any E 901 (fun z => match z with | [r, s1] => decide (s1 = s) && b_eqv E r (b_c 0) | _ => false)
      | _ => false)
    | _ => false))
  | some (3, 4), [x] => r_any E 905 (fun w => match w with | [a] => r_ge E a x 1 | _ => false)
  | some (3, 5), [a] => r_any E 906 (fun w => match w with
    | [z, y] => decide (z = a) && (match b_fm E 93 (b_c 19) with | some t => b_eqv E t y && r_ge E t (b_c 0) 0 && r_ge E (b_c 10) t 0 | none => false)
    | _ => false)
  | _, _ => false
def r_imp2 (E : b_E) : Bool := r_any E 902 (fun w => match w with
  | [x, k] => r_ge E x (b_c 1) 0 && ((match b_iv E.2.1 x, b_iv E.2.1 k with | some p, some q => decide (0 ≤ q.1 ∧ q.1 ≤ 31 ∧ p.2 < 2 ^ q.1.toNat) | _, _ => false)
    || (match b_fm E 93 (b_c 19) with | some t => r_ge E k t 0 && r_any E 904 (fun y => decide (y = [x])) | none => false))
  | _ => false)
def r_pur (i : Instr) (sa sa1 : List b_V) : List b_Q := match i, sa, sa1 with
  | .ishr, .inl (false, y) :: .inl (false, x) :: _, .inl (false, z) :: _ => [(900, [z, x, y])]
  | .iand, .inl (false, y) :: .inl (false, s) :: _, .inl (false, r) :: _ => if y = b_c 1 then [(901, [r, s])] else if y = b_c 255 then [(127, [r, s])] else [(156, [r, s, y])]
  | .ishl, .inl (false, y) :: .inl (false, x) :: _, .inl (false, z) :: _ => if x = b_c 1 then [(906, [z, y])] else []
  | _, _, _ => []
def r_rdb (E : b_E) (a : Nat) (x : b_T) : Option (Int × Int) := match Nat.beq a 116 with
  | false => (match [0, 1, 2, 3].find? (fun r => Nat.beq a (86 + 2 * r)) with
    | some r => (match r_un3 x 1 with
      | t => if r_pl3 t 1 = x ∧ (b_iv E.2.1 t).isSome = true ∧ r_ge E t (b_c 0) 0 = true ∧ r_ge E (b_c 19) t 0 = true ∧ r_any E (60 + r) (fun w => match w with | [n] => r_ge E n t 1 | _ => false) = true then some (0, 5) else none)
    | none => none)
  | true => (match [0, 1, 2, 3].find? (fun s => r_has E (70 + s)) with
    | some s => (match b_fm E 114 (b_c (s : Int)) with
      | some n => (match r_un3 x (60 * s : Nat) with
        | t => if r_pl3 t (60 * s : Nat) = x ∧ (b_iv E.2.1 t).isSome = true ∧ r_ge E t (b_c 0) 0 = true ∧ r_ge E (b_c 19) t 0 = true ∧ r_ge E n (b_sc 3 t) 1 = true then some (0, 19)
          else (match r_un3 x (60 * s + 1 : Nat) with
            | t => if r_pl3 t (60 * s + 1 : Nat) = x ∧ (b_iv E.2.1 t).isSome = true ∧ r_ge E t (b_c 0) 0 = true ∧ r_ge E (b_c 19) t 0 = true ∧ r_ge E n (b_sc 3 t) 1 = true then some (0, 5) else none))
      | none => none)
    | none => none)
theorem r_kd_F {id : Nat} {zs : List Int} {m : q_M} (h : r_kd id ≠ none) : r_F K g id zs m = r_F2 K g id zs m := by
  unfold r_kd at h
  split at h <;> first | rfl | (exact absurd rfl h)
theorem r_kd_id {id : Nat} {q : Nat × Nat} (h : r_kd id = some q) : (q.1 = 0 → id = 60 + q.2 ∧ q.2 < 4) ∧ (q.1 = 1 → id = 70 + q.2 ∧ q.2 < 4) ∧ (q.1 = 2 → id = 74 + q.2 ∧ q.2 < 4) ∧ (q.1 = 3 → id = 900 + q.2) := by
  unfold r_kd at h
  split at h <;> first | (cases h; simp; done) | (cases h; done)
theorem r_pl3_ok {v : List Int} {t : b_T} {k : Nat} {d : Nat} (h : b_is v t (k : Int)) : b_is v (r_pl3 t d) ((d + 3 * k : Nat) : Int) := by
  have := b_is_ad (k := 3) (b_is_c (d : Int)) h
  rw [show ((d : Int) + 3 * (k : Int)) = ((d + 3 * k : Nat) : Int) by omega] at this
  exact this
theorem r_shr {a b : Int32} {n : Nat} (ha : 0 ≤ a.toInt) (hb : b.toInt = n) (hn : n ≤ 30) : (a >>> (b &&& 31)).toInt = a.toInt / 2 ^ n := by
  rw [pk_shr a (b &&& 31) _ rfl]
  have h2 := b_nn32 (x := b) (by omega)
  have e1 : (b &&& 31) = b := by
    rw [← Int32.toBitVec_inj]
    apply BitVec.eq_of_toNat_eq
    have : (b &&& 31).toBitVec.toNat = b.toBitVec.toNat &&& 31 := by simp
    rw [this]
    exact Nat.and_two_pow_sub_one_of_lt_two_pow (n := 5) (by omega)
  have e33 : (b &&& 31).toBitVec.smod 32 = b.toBitVec := by
    rw [e1]
    apply BitVec.eq_of_toInt_eq
    rw [BitVec.toInt_smod]
    have : b.toBitVec.toInt = b.toInt := rfl
    rw [this]
    have h32 : (32#32).toInt = 32 := by decide
    show b.toInt.fmod (32#32).toInt = _
    rw [h32, Int.fmod_eq_emod_of_nonneg _ (by omega)]
    omega
  rw [e33, Int.shiftRight_eq_div_pow]
  have : b.toBitVec.toNat = n := by omega
  rw [this]
  simp
theorem r_and1 {a : Int32} (ha : 0 ≤ a.toInt) : (a &&& 1).toInt = a.toInt % 2 := by
  have h1 := b_nn32 ha
  have h3 : (a &&& 1).toBitVec.toNat = a.toBitVec.toNat &&& 1 := by simp
  have h5 : (a &&& 1).toInt = ((a &&& 1).toBitVec.toNat : Int) := (b_nn32 (g_and_l ha).1).1
  rw [h5, h3, Nat.and_one_is_mod, h1.1]
  omega
section RUL2
variable {v : List Int} {E : b_E} {m : q_M} {I : List b_I}
theorem b_fml_ok (hE : bg_E (r_F K g) v E m) {c : Nat} {t e : b_T} {j : Nat} (h : b_fml E c t = some e) (hj : b_is v t (j : Int)) : b_is v e (q_l m c j) := by
  unfold b_fml at h
  split at h
  rotate_left
  · cases h
  rename_i e1 he
  cases h
  obtain ⟨k, k1, k2⟩ := hE.2.2.2.1 _ (b_mo_ok he)
  have : (k : Int) = j := b_is_uniq k1 hj
  have : k = j := by omega
  subst this
  obtain ⟨z, z1, z2⟩ := k2
  simp only at z1 z2
  unfold q_l
  rw [z1]
  exact z2
theorem r_btw_ok (hE : bg_E (r_F K g) v E m) {c : Nat} {t : b_T} {j : Nat} {hi : Int} (h : r_btw E (b_fml E c t) hi = true) (hj : b_is v t (j : Int)) : 0 ≤ q_l m c j ∧ q_l m c j ≤ hi := by
  unfold r_btw at h
  split at h
  · rename_i e he
    have k1 := b_fml_ok hE he hj
    rw [Bool.and_eq_true] at h
    have c1 := r_ge_ok hE h.1 k1 (b_is_c 0)
    have c2 := r_ge_ok hE h.2 (b_is_c hi) k1
    omega
  · cases h
theorem r_hav2_ok (hE : bg_E (r_F K g) v E m) {id : Nat} {us : List b_T} {zs : List Int} (hz : g_2 (b_is v) us zs) (h : r_hav2 E id us = true) : r_F K g id zs m := by
  unfold r_hav2 at h
  split at h
  · rename_i r n hk
    rw [r_kd_F (by rw [hk]; simp)]
    obtain ⟨y, ys, rfl, hy, h0⟩ := g_ca hz
    have := g_na h0
    subst this
    unfold r_F2
    simp only [hk]
    rw [Bool.or_eq_true] at h
    rcases h with h | h
    · have := r_ge_ok hE h (b_is_c 0) hy
      intro i hi
      omega
    · obtain ⟨u, hu, h2, h3⟩ := r_any_ok h
      split at h3
      rotate_left
      · cases h3
      rename_i t hu2
      obtain ⟨w, w1, w2⟩ := r_tok1 hE hu hu2
      rw [h2, r_kd_F (by rw [hk]; simp)] at w2
      unfold r_F2 at w2
      simp only [hk] at w2
      rw [Bool.or_eq_true] at h3
      rcases h3 with h3 | h3
      · have := r_ge_ok hE h3 w1 hy
        intro i hi
        exact w2 i (by omega)
      · rw [Bool.and_eq_true, decide_eq_true_eq] at h3
        obtain ⟨rfl, h4⟩ := h3
        have ey := b_is_uniq hy (r_sft_ok w1)
        intro i hi hi2
        by_cases hiw : (i : Int) < w
        · exact w2 i hiw hi2
        · have : w = i := by omega
          subst this
          have := r_btw_ok hE h4 (r_pl3_ok (d := 1) w1)
          rw [show 3 * i + 1 = 1 + 3 * i by omega]
          exact this
  · rename_i s hk
    rw [r_kd_F (by rw [hk]; simp)]
    have := g_na hz
    subst this
    unfold r_F2
    simp only [hk]
    split at h
    rotate_left
    · cases h
    rename_i n hn
    have hN := r_cst hE (d := s) hn
    obtain ⟨u, hu, h2, h3⟩ := r_any_ok h
    split at h3
    rotate_left
    · cases h3
    rename_i t hu2
    obtain ⟨w, w1, w2⟩ := r_tok1 hE hu hu2
    have hs4 := ((r_kd_id hk).2.1 rfl).2
    simp only at hs4
    have hk2 : r_kd (74 + s) = some (2, s) := by
      match s, hs4 with
      | 0, _ => rfl
      | 1, _ => rfl
      | 2, _ => rfl
      | 3, _ => rfl
    rw [h2, r_kd_F (by rw [hk2]; simp)] at w2
    unfold r_F2 at w2
    simp only [hk2] at w2
    have := r_ge_ok hE h3 w1 hN
    intro k hk1
    exact w2 k (by omega)
  · rename_i s n hk
    rw [r_kd_F (by rw [hk]; simp)]
    obtain ⟨y, ys, rfl, hy, h0⟩ := g_ca hz
    have := g_na h0
    subst this
    unfold r_F2
    simp only [hk]
    rw [Bool.or_eq_true] at h
    rcases h with h | h
    · have := r_ge_ok hE h (b_is_c 0) hy
      intro i hi
      omega
    · obtain ⟨u, hu, h2, h3⟩ := r_any_ok h
      split at h3
      rotate_left
      · cases h3
      rename_i t hu2
      obtain ⟨w, w1, w2⟩ := r_tok1 hE hu hu2
      rw [h2, r_kd_F (by rw [hk]; simp)] at w2
      unfold r_F2 at w2
      simp only [hk] at w2
      simp only [Bool.and_eq_true, decide_eq_true_eq] at h3
      obtain ⟨⟨⟨rfl, h5, h6⟩, h7⟩, h8⟩ := h3
      have ey := b_is_uniq hy (r_sft_ok w1)
      obtain ⟨q, q1⟩ := b_iv_ex hE.2.1 h6
      have ew : w = 3 * q := by
        rw [← h5] at w1
        have := b_is_uniq w1 (b_is_ad (k := 3) (b_is_c 0) q1)
        omega
      intro k hk1 hk2
      by_cases hkw : ((3 * k : Nat) : Int) < w
      · exact w2 k hkw hk2
      · have hw : w = ((3 * k : Nat) : Int) := by omega
        rw [hw] at w1
        have c1 := r_btw_ok hE (j := 60 * s + 3 * k) h7 (by
          have := r_sft_ok (d := ((60 * s : Nat) : Int)) w1
          rw [show (((3 * k : Nat) : Int) + ((60 * s : Nat) : Int)) = ((60 * s + 3 * k : Nat) : Int) by omega] at this
          exact this)
        have c2 := r_btw_ok hE (j := 60 * s + 3 * k + 1) h8 (by
          have := r_sft_ok (d := ((60 * s + 1 : Nat) : Int)) w1
          rw [show (((3 * k : Nat) : Int) + ((60 * s + 1 : Nat) : Int)) = ((60 * s + 3 * k + 1 : Nat) : Int) by omega] at this
          exact this)
        exact ⟨c1, c2⟩
  · rename_i x k hk
    rw [r_kd_F (by rw [hk]; simp)]
    obtain ⟨y, ys, rfl, hy, h0⟩ := g_ca hz
    obtain ⟨z, zs, rfl, hz1, h1⟩ := g_ca h0
    have := g_na h1
    subst this
    unfold r_F2
    simp only [hk]
    rw [Bool.and_eq_true] at h
    have hx0 := r_ge_ok hE h.1 hy (b_is_c 0)
    have h := h.2
    rw [Bool.or_eq_true] at h
    rcases h with h | h
    · rw [of_decide_eq_true h] at hz1
      have := b_is_uniq hz1 (b_is_c 0)
      exact ⟨0, by omega, by omega, by omega, by simp⟩
    · obtain ⟨u, hu, h2, h3⟩ := r_any_ok h
      split at h3
      rotate_left
      · cases h3
      rename_i x0 k0 hu2
      simp only [Bool.and_eq_true, decide_eq_true_eq] at h3
      obtain ⟨⟨⟨rfl, rfl⟩, h4⟩, h5⟩ := h3
      obtain ⟨a, b, a1, b1, ab⟩ := r_tok2 hE hu hu2
      rw [h2, r_kd_F (by decide)] at ab
      obtain ⟨n, rfl, n1, n2, n3⟩ : ∃ n : Nat, b = n ∧ n ≤ 31 ∧ 0 ≤ a ∧ a % 2 ^ n = 0 := ab
      have ea := b_is_uniq a1 hy
      subst ea
      have ez := b_is_uniq hz1 (r_sft_ok b1)
      have c30 := r_ge_ok hE h4 (b_is_c 30) b1
      obtain ⟨u2, hu2', h6, h7⟩ := r_any_ok h5
      split at h7
      rotate_left
      · cases h7
      rename_i s x1 k1 hu3
      simp only [Bool.and_eq_true, decide_eq_true_eq] at h7
      obtain ⟨⟨rfl, rfl⟩, h8⟩ := h7
      obtain ⟨sv, xv, kv, s1, x1', k1', sF⟩ := r_tok3 hE hu2' hu3
      rw [h6, r_kd_F (by decide)] at sF
      obtain ⟨p, q, p1, q1, pq⟩ : ∃ a b : Int32, a.toInt = xv ∧ b.toInt = kv ∧ (a >>> (b &&& 31)).toInt = sv := sF
      have exv := b_is_uniq x1' hy
      have ekv := b_is_uniq k1' b1
      obtain ⟨u4, hu4, h9, h10⟩ := r_any_ok h8
      split at h10
      rotate_left
      · cases h10
      rename_i r s1' hu5
      simp only [Bool.and_eq_true, decide_eq_true_eq] at h10
      obtain ⟨rfl, h11⟩ := h10
      obtain ⟨rv, sv2, r1, s2, rF⟩ := r_tok2 hE hu4 hu5
      rw [h9, r_kd_F (by decide)] at rF
      obtain ⟨g, g1, g2⟩ : ∃ a : Int32, a.toInt = sv2 ∧ (a &&& 1).toInt = rv := rF
      have esv := b_is_uniq s2 s1
      have er := b_eqv_ok hE h11 r1 (b_is_c 0)
      have e1 : sv = a / 2 ^ n := by
        rw [← pq, r_shr (n := n) (by omega) (by omega) (by omega), p1, exv]
      have hpos : (0 : Int) < 2 ^ n := by
        have := Nat.two_pow_pos n
        have h2 : (0 : Int) < ((2 ^ n : Nat) : Int) := by exact_mod_cast this
        rw [Int.natCast_pow] at h2
        exact h2
      have hs0 : 0 ≤ sv := by
        rw [e1]
        exact Int.ediv_nonneg (by omega) (by omega)
      have e2 : sv % 2 = 0 := by
        have := r_and1 (a := g) (by omega)
        omega
      refine ⟨n + 1, by omega, by omega, by omega, ?_⟩
      have e3 : a = 2 ^ n * sv := by
        have := Int.mul_ediv_add_emod a (2 ^ n)
        rw [n3, ← e1] at this
        omega
      have e4 : sv = 2 * (sv / 2) := by omega
      rw [e3, e4, Int.pow_succ, ← Int.mul_assoc]
      exact Int.mul_emod_right _ _
  · rename_i x hk
    rw [r_kd_F (by rw [hk]; simp)]
    obtain ⟨y, ys, rfl, hy, h0⟩ := g_ca hz
    have := g_na h0
    subst this
    unfold r_F2
    simp only [hk]
    obtain ⟨u, hu, h2, h3⟩ := r_any_ok h
    split at h3
    rotate_left
    · cases h3
    rename_i a hu2
    obtain ⟨w, w1, w2⟩ := r_tok1 hE hu hu2
    rw [h2, r_kd_F (by decide)] at w2
    obtain ⟨n, n1, n2, n3⟩ : ∃ n : Nat, q_i m 93 19 = n ∧ n ≤ 10 ∧ w = 2 ^ n := w2
    have := r_ge_ok hE h3 w1 hy
    exact ⟨n, n1, n2, by omega⟩
  · rename_i a hk
    rw [r_kd_F (by rw [hk]; simp)]
    obtain ⟨y, ys, rfl, hy, h0⟩ := g_ca hz
    have := g_na h0
    subst this
    unfold r_F2
    simp only [hk]
    obtain ⟨u, hu, h2, h3⟩ := r_any_ok h
    split at h3
    rotate_left
    · cases h3
    rename_i z y1 hu2
    rw [Bool.and_eq_true, decide_eq_true_eq] at h3
    obtain ⟨rfl, h4⟩ := h3
    split at h4
    rotate_left
    · cases h4
    rename_i t ht
    have hT := r_cst hE (d := 19) ht
    simp only [Bool.and_eq_true] at h4
    obtain ⟨w, w', w1, w2, w3⟩ := r_tok2 hE hu hu2
    rw [h2, r_kd_F (by decide)] at w3
    have w3 : ∀ n : Nat, w' = n → n ≤ 30 → w = 2 ^ n := w3
    have c1 := b_eqv_ok hE h4.1.1 hT w2
    have c2 := r_ge_ok hE h4.1.2 hT (b_is_c 0)
    have c3 := r_ge_ok hE h4.2 (b_is_c 10) hT
    have ew := b_is_uniq w1 hy
    exact ⟨(q_i m 93 19).toNat, by omega, by omega, by rw [← ew]; exact w3 _ (by omega) (by omega)⟩
  · cases h
theorem r_imp2_ok (hE : bg_E (r_F K g) v E m) : ¬ r_imp2 E = true := by
  intro h
  unfold r_imp2 at h
  obtain ⟨u, hu, h2, h3⟩ := r_any_ok h
  split at h3
  rotate_left
  · cases h3
  rename_i x k hu2
  rw [Bool.and_eq_true] at h3
  obtain ⟨a, b, a1, b1, ab⟩ := r_tok2 hE hu hu2
  rw [h2, r_kd_F (by decide)] at ab
  obtain ⟨n, rfl, n1, n2, n3⟩ : ∃ n : Nat, b = n ∧ n ≤ 31 ∧ 0 ≤ a ∧ a % 2 ^ n = 0 := ab
  have c1 := r_ge_ok hE h3.1 a1 (b_is_c 1)
  have hge : (2 : Int) ^ n ≤ a := Int.le_of_dvd (by omega) (Int.dvd_of_emod_eq_zero n3)
  have h4 := h3.2
  rw [Bool.or_eq_true] at h4
  rcases h4 with h4 | h4
  · split at h4
    rotate_left
    · cases h4
    rename_i p q hp hq
    rw [decide_eq_true_eq] at h4
    have i1 := b_iv_ok hE.2.1 hp a1
    have i2 := b_iv_ok hE.2.1 hq b1
    have := b_pow_le (a := q.1.toNat) (b := n) (by omega)
    omega
  · split at h4
    rotate_left
    · cases h4
    rename_i t ht
    have hT := r_cst hE (d := 19) ht
    rw [Bool.and_eq_true] at h4
    have c2 := r_ge_ok hE h4.1 b1 hT
    obtain ⟨w, hw, h5, h6⟩ := r_any_ok h4.2
    obtain ⟨z, z1, z2⟩ := r_tok1 hE hw (of_decide_eq_true h6)
    rw [h5, r_kd_F (by decide)] at z2
    obtain ⟨l, l1, l2, l3⟩ : ∃ n : Nat, q_i m 93 19 = n ∧ n ≤ 10 ∧ z < 2 ^ n := z2
    have ez := b_is_uniq z1 a1
    have := b_pow_le (a := l) (b := n) (by omega)
    omega
theorem r_rdb_ok (hE : bg_E (r_F K g) v E m) {a j : Nat} {x : b_T} {z : Int64} {q : Int × Int} (hx : b_is v x (j : Int)) (hz : q_at m a j = .long z) (h : r_rdb E a x = some q) : q.1 ≤ z.toInt ∧ z.toInt ≤ q.2 := by
  have hl : q_l m a j = z.toInt := by
    unfold q_l
    rw [hz]
  unfold r_rdb at h
  split at h
  · split at h
    rotate_left
    · cases h
    rename_i r hr
    have hr1 := List.find?_some hr
    have hr2 := List.mem_of_find?_eq_some hr
    have ea := Nat.eq_of_beq_eq_true hr1
    simp only at h
    split at h
    rotate_left
    · cases h
    rename_i hc
    obtain ⟨c1, c2, c3, c4, c5⟩ := hc
    cases h
    obtain ⟨w, w1⟩ := b_iv_ex hE.2.1 c2
    have d1 := r_ge_ok hE c3 w1 (b_is_c 0)
    have d2 := r_ge_ok hE c4 (b_is_c 19) w1
    obtain ⟨k, rfl⟩ : ∃ n : Nat, w = n := ⟨w.toNat, by omega⟩
    have ej : j = 3 * k + 1 := by
      rw [← c1] at hx
      have := b_is_uniq hx (r_pl3_ok (d := 1) w1)
      omega
    obtain ⟨u, hu, h2, h3⟩ := r_any_ok c5
    split at h3
    rotate_left
    · cases h3
    rename_i n hu2
    obtain ⟨y, y1, y2⟩ := r_tok1 hE hu hu2
    have hk : r_kd (60 + r) = some (0, r) := by
      simp only [List.mem_cons, List.not_mem_nil, or_false] at hr2
      rcases hr2 with rfl | rfl | rfl | rfl <;> rfl
    rw [h2, r_kd_F (by rw [hk]; simp)] at y2
    unfold r_F2 at y2
    simp only [hk] at y2
    have := r_ge_ok hE h3 y1 w1
    have := y2 k (by omega) (by omega)
    rw [← ea, ← ej, hl] at this
    exact this
  · rename_i ha
    have ha := Nat.eq_of_beq_eq_true ha
    split at h
    rotate_left
    · cases h
    rename_i s hs
    have hs1 := List.find?_some hs
    have hs2 := List.mem_of_find?_eq_some hs
    have hF := r_has_ok hE hs1
    have hk : r_kd (70 + s) = some (1, s) := by
      simp only [List.mem_cons, List.not_mem_nil, or_false] at hs2
      rcases hs2 with rfl | rfl | rfl | rfl <;> rfl
    rw [r_kd_F (by rw [hk]; simp)] at hF
    unfold r_F2 at hF
    simp only [hk] at hF
    split at h
    rotate_left
    · cases h
    rename_i n hn
    have hN := r_cst hE (d := s) hn
    simp only at h
    split at h
    · rename_i hc
      obtain ⟨c1, c2, c3, c4, c5⟩ := hc
      cases h
      obtain ⟨w, w1⟩ := b_iv_ex hE.2.1 c2
      have d1 := r_ge_ok hE c3 w1 (b_is_c 0)
      have d2 := r_ge_ok hE c4 (b_is_c 19) w1
      have d3 := r_ge_ok hE c5 hN (b_is_sc (k := 3) w1)
      obtain ⟨k, rfl⟩ : ∃ n : Nat, w = n := ⟨w.toNat, by omega⟩
      have ej : j = 60 * s + 3 * k := by
        rw [← c1] at hx
        have := b_is_uniq hx (r_pl3_ok (d := 60 * s) w1)
        omega
      have := (hF k (by omega) (by omega)).1
      rw [← ej, ← ha, hl] at this
      exact this
    · split at h
      rotate_left
      · cases h
      rename_i hc
      obtain ⟨c1, c2, c3, c4, c5⟩ := hc
      cases h
      obtain ⟨w, w1⟩ := b_iv_ex hE.2.1 c2
      have d1 := r_ge_ok hE c3 w1 (b_is_c 0)
      have d2 := r_ge_ok hE c4 (b_is_c 19) w1
      have d3 := r_ge_ok hE c5 hN (b_is_sc (k := 3) w1)
      obtain ⟨k, rfl⟩ : ∃ n : Nat, w = n := ⟨w.toNat, by omega⟩
      have ej : j = 60 * s + 3 * k + 1 := by
        rw [← c1] at hx
        have := b_is_uniq hx (r_pl3_ok (d := 60 * s + 1) w1)
        omega
      have := (hF k (by omega) (by omega)).2
      rw [← ej, ← ha, hl] at this
      exact this
end RUL2
theorem r_pur_ok {v : List Int} {nL pc len : Nat} {i : Instr} {l : q_L} {st : List Value} {pc1 : Nat} {l1 : q_L} {st1 : List Value} {sa sa1 : List b_V} {m : q_M} (hs : bg_s v sa st) (hs1 : bg_s v sa1 st1) (h : q_pure nL pc len i l st = some (pc1, l1, st1)) : ∀ t ∈ r_pur i sa sa1, bg_Q (r_F K g) v m t := by
  intro t ht
  unfold r_pur at ht
  split at ht
  · obtain ⟨y, ys, rfl, hy, hs⟩ := g_ca hs
    obtain ⟨x, xs, rfl, hx, hs⟩ := g_ca hs
    obtain ⟨z, zs, rfl, hz, hs1⟩ := g_ca hs1
    obtain ⟨b, rfl, hy⟩ := hy
    obtain ⟨a, rfl, hx⟩ := hx
    obtain ⟨c, rfl, hz⟩ := hz
    have := List.mem_singleton.mp ht
    subst this
    simp only [q_pure, Option.some.injEq, Prod.mk.injEq, List.cons.injEq, Value.int.injEq] at h
    obtain ⟨-, -, rfl, -⟩ := h
    exact ⟨[_, _, _], ⟨hz, hx, hy, trivial⟩, a, b, rfl, rfl, rfl⟩
  · split at ht
    rotate_left
    · split at ht
      rotate_left
      · obtain ⟨y, ys, rfl, hy, hs⟩ := g_ca hs
        obtain ⟨x, xs, rfl, hx, hs⟩ := g_ca hs
        obtain ⟨z, zs, rfl, hz, hs1⟩ := g_ca hs1
        obtain ⟨b, rfl, hy⟩ := hy
        obtain ⟨a, rfl, hx⟩ := hx
        obtain ⟨c, rfl, hz⟩ := hz
        have := List.mem_singleton.mp ht
        subst this
        simp only [q_pure, Option.some.injEq, Prod.mk.injEq, List.cons.injEq, Value.int.injEq] at h
        obtain ⟨-, -, rfl, -⟩ := h
        exact ⟨[_, _, _], ⟨hz, hx, hy, trivial⟩, a, b, rfl, rfl, rfl⟩
      rename_i hy1
      subst hy1
      obtain ⟨y, ys, rfl, hy, hs⟩ := g_ca hs
      obtain ⟨x, xs, rfl, hx, hs⟩ := g_ca hs
      obtain ⟨z, zs, rfl, hz, hs1⟩ := g_ca hs1
      obtain ⟨b, rfl, hy⟩ := hy
      obtain ⟨a, rfl, hx⟩ := hx
      obtain ⟨c, rfl, hz⟩ := hz
      have := List.mem_singleton.mp ht
      subst this
      simp only [q_pure, Option.some.injEq, Prod.mk.injEq, List.cons.injEq, Value.int.injEq] at h
      obtain ⟨-, -, rfl, -⟩ := h
      have hb : b = 255 := Int32.toInt_inj.mp (b_is_uniq hy (b_is_c 255))
      subst hb
      refine ⟨[_, _], ⟨hz, hx, trivial⟩, ?_⟩
      show (a &&& 255).toInt = r_lo a.toInt
      unfold r_lo
      rw [Int32.ofInt_toInt]
    rename_i hy1
    subst hy1
    obtain ⟨y, ys, rfl, hy, hs⟩ := g_ca hs
    obtain ⟨x, xs, rfl, hx, hs⟩ := g_ca hs
    obtain ⟨z, zs, rfl, hz, hs1⟩ := g_ca hs1
    obtain ⟨b, rfl, hy⟩ := hy
    obtain ⟨a, rfl, hx⟩ := hx
    obtain ⟨c, rfl, hz⟩ := hz
    have := List.mem_singleton.mp ht
    subst this
    simp only [q_pure, Option.some.injEq, Prod.mk.injEq, List.cons.injEq, Value.int.injEq] at h
    obtain ⟨-, -, rfl, -⟩ := h
    have hb : b = 1 := Int32.toInt_inj.mp (b_is_uniq hy (b_is_c 1))
    subst hb
    exact ⟨[_, _], ⟨hz, hx, trivial⟩, a, rfl, rfl⟩
  · split at ht
    rotate_left
    · cases ht
    rename_i hx1
    subst hx1
    obtain ⟨y, ys, rfl, hy, hs⟩ := g_ca hs
    obtain ⟨x, xs, rfl, hx, hs⟩ := g_ca hs
    obtain ⟨z, zs, rfl, hz, hs1⟩ := g_ca hs1
    obtain ⟨b, rfl, hy⟩ := hy
    obtain ⟨a, rfl, hx⟩ := hx
    obtain ⟨c, rfl, hz⟩ := hz
    have := List.mem_singleton.mp ht
    subst this
    simp only [q_pure, Option.some.injEq, Prod.mk.injEq, List.cons.injEq, Value.int.injEq] at h
    obtain ⟨-, -, rfl, -⟩ := h
    have ha : a = 1 := Int32.toInt_inj.mp (b_is_uniq hx (b_is_c 1))
    subst ha
    refine ⟨[_, _], ⟨hz, hy, trivial⟩, ?_⟩
    intro n hn hn2
    have h1 : (1 : Int32).toInt = 1 := rfl
    have hp : (2 : Int) ^ n ≤ 2 ^ 30 := b_pow_le hn2
    have e : b.toInt.toNat = n := by omega
    rw [b_shl32 (by omega) (by omega) (by omega) (by rw [e, h1]; omega), e, h1]
    omega
  · cases ht
end GH

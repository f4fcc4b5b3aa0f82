def g_C (b : Nat) (v : List Int) (x : a_C) (y : q_E) : Prop := match x with
  | .inl (t, n, .inl q) => ∃ f : Nat → Int32, y = .inl (t, n, .inl f) ∧ ∀ j, j < n → q.1 ≤ (f j).toInt ∧ (f j).toInt ≤ q.2
  | .inl (t, n, .inr (.inl vs)) => ∃ f : Nat → Int32, y = .inl (t, n, .inl f) ∧ vs.length = n ∧ ∀ (j : Nat) (x : a_N), vs[j]? = some x → x.1 = false ∧ g_lin v x.2.1 x.2.2 (f j).toInt
  | .inl (t, n, .inr (.inr (.inl _))) => ∃ f : Nat → Int64, y = .inl (t, n, .inr (.inl f))
  | .inl (t, n, .inr (.inr (.inr rs))) => ∃ f : Nat → Option Nat, y = .inl (t, n, .inr (.inr f)) ∧ rs.length = n ∧ ∀ (j : Nat) (r : Option Nat), rs[j]? = some r → f j = r
  | .inr (ci, vs) => ∃ fs : List Value, y = .inr (ci, fs) ∧ g_s b v vs fs
abbrev g_M (b : Nat) (v : List Int) (ma : List a_C) (m : q_M) : Prop := g_2 (g_C b v) ma m
theorem g_C_ext {b : Nat} {v t : List Int} {x : a_C} {y : q_E} (h : g_C b v x y) : g_C b (v ++ t) x y := by
  match x, h with
  | .inl (_, n, .inl q), h => exact h
  | .inl (_, n, .inr (.inl vs)), h =>
    obtain ⟨f, h1, h2, h3⟩ := h
    exact ⟨f, h1, h2, fun j x hx => ⟨(h3 j x hx).1, g_lin_ext (h3 j x hx).2⟩⟩
  | .inl (_, n, .inr (.inr (.inl _))), h => exact h
  | .inl (_, n, .inr (.inr (.inr rs))), h => exact h
  | .inr (ci, vs), h =>
    obtain ⟨fs, h1, h2⟩ := h
    exact ⟨fs, h1, g_s_ext h2⟩
theorem g_M_ext {b : Nat} {v t : List Int} {ma : List a_C} {m : q_M} (h : g_M b v ma m) : g_M b (v ++ t) ma m := g_2_mono (fun _ _ => g_C_ext) h
theorem g_sz {b : Nat} {v : List Int} {x : a_C} {y : q_E} (h : g_C b v x y) : a_sz x = q_sz y := by
  match x, h with
  | .inl (_, n, .inl q), h => obtain ⟨f, rfl, -⟩ := h; rfl
  | .inl (_, n, .inr (.inl vs)), h => obtain ⟨f, rfl, -⟩ := h; rfl
  | .inl (_, n, .inr (.inr (.inl _))), h => obtain ⟨f, rfl⟩ := h; rfl
  | .inl (_, n, .inr (.inr (.inr rs))), h => obtain ⟨f, rfl, -⟩ := h; rfl
  | .inr (ci, vs), h => obtain ⟨fs, rfl, h2⟩ := h; exact g_2_len h2
theorem g_sl {b : Nat} {v : List Int} : ∀ {ma : List a_C} {m : q_M}, g_M b v ma m → a_sl ma = q_sl m
  | [], [], _ => rfl
  | x :: ma, y :: m, h => by
    have ih := g_sl h.2
    simp only [a_sl, q_sl, List.map_cons, List.sum_cons] at ih ⊢
    rw [ih, g_sz h.1]
  | [], _ :: _, h => h.elim
  | _ :: _, [], h => h.elim
theorem g_ix {j : Int32} {n : Nat} (h1 : 0 ≤ j.toInt) (h2 : j.toInt < n) : q_in j n = true ∧ (j.toNatClampNeg : Int) = j.toInt ∧ j.toNatClampNeg < n ∧ ¬ j < 0 := by
  have e : j.toNatClampNeg = j.toInt.toNat := rfl
  have h3 : ¬ j < 0 := by
    rw [Int32.lt_iff_toInt_lt, Int32.toInt_zero]
    omega
  refine ⟨?_, by omega, by omega, h3⟩
  simp only [q_in, Bool.and_eq_true, Bool.not_eq_true', decide_eq_false_iff_not, decide_eq_true_eq]
  exact ⟨h3, by omega⟩
theorem g_hul {v : List Int} {B : a_B} (hB : g_B v B) : ∀ (vs : List a_N) (j : Nat) (x : a_N) (z : Int32), vs[j]? = some x → x.1 = false → g_lin v x.2.1 x.2.2 z.toInt → (a_hul B vs).1 ≤ z.toInt ∧ z.toInt ≤ (a_hul B vs).2
  | [], j, x, z, h, _, _ => by simp at h
  | [y], j, x, z, h, h1, h2 => by
    match j, h with
    | 0, h =>
      simp at h
      subst h
      exact g_iv hB h2 (by rw [h1]; exact g_o32 z)
    | j + 1, h => simp at h
  | y :: y2 :: vs, 0, x, z, h, h1, h2 => by
    simp at h
    subst h
    have := g_iv hB h2 (by rw [h1]; exact g_o32 z)
    exact ⟨Int.le_trans (a_mn_l _ _) this.1, Int.le_trans this.2 (a_mx_l _ _)⟩
  | y :: y2 :: vs, j + 1, x, z, h, h1, h2 => by
    simp at h
    have := g_hul hB (y2 :: vs) j x z (by simpa using h) h1 h2
    exact ⟨Int.le_trans (a_mn_r _ _) this.1, Int.le_trans this.2 (a_mx_r _ _)⟩
theorem g_rd {b : Nat} {v : List Int} {k : Nat} {B : a_B} (hk : v.length = k) (hB : g_B v B) {t n : Nat} {c : (Int × Int) ⊕ List a_N ⊕ Unit ⊕ List (Option Nat)} {y : q_E} (hC : g_C b v (.inl (t, n, c)) y) {iv : Int × Int} {j : Int32} (hj : iv.1 ≤ j.toInt ∧ j.toInt ≤ iv.2) (h0 : 0 ≤ iv.1) (hn : iv.2 < n) {z : Nat × a_B × a_N} (h : a_rd k B c iv = some z) :
    ∃ f : Nat → Int32, y = .inl (t, n, .inl f) ∧ g_R v z false (f j.toNatClampNeg).toInt := by
  obtain ⟨hq, he, hlt, -⟩ := g_ix (j := j) (n := n) (by omega) (by omega)
  match c, hC, h with
  | .inl q, hC, h =>
    obtain ⟨f, h1, h2⟩ := hC
    refine ⟨f, h1, ?_⟩
    have hh := h2 _ hlt
    simp only [a_rd] at h
    split at h
    · rename_i hq2
      cases h
      exact g_R0 hk hB rfl (by show (f j.toNatClampNeg).toInt = q.1; omega)
    · cases h
      exact g_new hk hB hh.1 hh.2
  | .inr (.inl vs), hC, h =>
    obtain ⟨f, h1, h2, h3⟩ := hC
    refine ⟨f, h1, ?_⟩
    simp only [a_rd] at h
    split at h
    · rename_i hs
      split at h
      · rename_i x hx
        cases h
        have e2 : iv.1.toNat = j.toNatClampNeg := by omega
        rw [e2] at hx
        exact g_R0 hk hB (h3 _ _ hx).1 (h3 _ _ hx).2
      · cases h
    · cases h
      have hl : j.toNatClampNeg < vs.length := by omega
      have hx := List.getElem?_eq_getElem hl
      have hh := g_hul hB vs _ _ (f j.toNatClampNeg) hx (h3 _ _ hx).1 (h3 _ _ hx).2
      exact g_new hk hB hh.1 hh.2
theorem g_upd_u {f : Nat → Int32} {n j : Nat} {w : Int32} {lo hi lo2 hi2 : Int} (h : ∀ i, i < n → lo ≤ (f i).toInt ∧ (f i).toInt ≤ hi) (hw : lo2 ≤ w.toInt ∧ w.toInt ≤ hi2) : ∀ i, i < n → a_mn lo lo2 ≤ (upd f j w i).toInt ∧ (upd f j w i).toInt ≤ a_mx hi hi2 := by
  intro i hi
  unfold upd
  split
  · exact ⟨Int.le_trans (a_mn_r _ _) hw.1, Int.le_trans hw.2 (a_mx_r _ _)⟩
  · exact ⟨Int.le_trans (a_mn_l _ _) (h i hi).1, Int.le_trans (h i hi).2 (a_mx_l _ _)⟩
theorem g_put {b : Nat} {v : List Int} {B : a_B} (hB : g_B v B) {t n : Nat} {c c1 : (Int × Int) ⊕ List a_N ⊕ Unit ⊕ List (Option Nat)} {y : q_E} (hC : g_C b v (.inl (t, n, c)) y) {iv : Int × Int} {j : Int32} (hj : iv.1 ≤ j.toInt ∧ j.toInt ≤ iv.2) (h0 : 0 ≤ iv.1) (hn : iv.2 < n) {x : a_N} {w : Int32} (hx1 : x.1 = false) (hx : g_lin v x.2.1 x.2.2 w.toInt) (h : a_put B c iv x = some c1) :
    ∃ f : Nat → Int32, y = .inl (t, n, .inl f) ∧ g_C b v (.inl (t, n, c1)) (.inl (t, n, .inl (upd f j.toNatClampNeg w))) := by
  obtain ⟨hq, he, hlt, -⟩ := g_ix (j := j) (n := n) (by omega) (by omega)
  have hw := g_iv hB hx (by rw [hx1]; exact g_o32 w)
  match c, hC, h with
  | .inl q, hC, h =>
    obtain ⟨f, h1, h2⟩ := hC
    refine ⟨f, h1, ?_⟩
    cases h
    exact ⟨_, rfl, g_upd_u h2 hw⟩
  | .inr (.inl vs), hC, h =>
    obtain ⟨f, h1, h2, h3⟩ := hC
    refine ⟨f, h1, ?_⟩
    simp only [a_put] at h
    split at h
    · rename_i hs
      cases h
      have e2 : iv.1.toNat = j.toNatClampNeg := by omega
      refine ⟨_, rfl, by rw [List.length_set]; exact h2, fun i y hy => ?_⟩
      rw [e2] at hy
      unfold upd
      by_cases hi : i = j.toNatClampNeg
      · subst hi
        rw [List.getElem?_set_self (by omega)] at hy
        cases hy
        rw [if_pos rfl]
        exact ⟨hx1, hx⟩
      · rw [List.getElem?_set_ne (fun q => hi q.symm)] at hy
        rw [if_neg hi]
        exact h3 i y hy
    · cases h
      refine ⟨_, rfl, g_upd_u (fun i hi => ?_) hw⟩
      have hl : i < vs.length := by omega
      have hx := List.getElem?_eq_getElem hl
      exact g_hul hB vs _ _ (f i) hx (h3 _ _ hx).1 (h3 _ _ hx).2
def g_QR (b : Nat) (v : List Int) (ps : List a_Q) (res : Option (List Value × q_M)) : Prop := ∃ p ∈ ps, ∃ (t : List Int) (st1 : List Value) (m1 : q_M), res = some (st1, m1) ∧ (v ++ t).length = p.1 ∧ g_B (v ++ t) p.2.1 ∧ g_s b (v ++ t) p.2.2.1 st1 ∧ g_M b (v ++ t) p.2.2.2 m1
theorem g_Q0 {b : Nat} {v : List Int} {k : Nat} {B : a_B} {sa : List a_V} {ma : List a_C} {ps : List a_Q} {st : List Value} {m : q_M} {res : Option (List Value × q_M)} (hm : (k, B, sa, ma) ∈ ps) (hr : res = some (st, m)) (hk : v.length = k) (hB : g_B v B) (hs : g_s b v sa st) (hM : g_M b v ma m) : g_QR b v ps res :=
  ⟨_, hm, [], st, m, hr, by simpa using hk, by simpa using hB, by simpa using hs, by simpa using hM⟩
theorem g_Q1 {b : Nat} {v : List Int} {z : Nat × a_B × a_N} {lg : Bool} {w : Int} (hR : g_R v z lg w) {y : Value} (hy : match lg with | false => ∃ c : Int32, y = .int c ∧ c.toInt = w | true => ∃ c : Int64, y = .long c ∧ c.toInt = w) {sa : List a_V} {ma : List a_C} {st : List Value} {m : q_M} {res : Option (List Value × q_M)} (hr : res = some (y :: st, m)) (hs : g_s b v sa st) (hM : g_M b v ma m) : g_QR b v [(z.1, z.2.1, .inl z.2.2 :: sa, ma)] res := by
  obtain ⟨t, h1, h2, h3, h4⟩ := hR
  refine ⟨_, List.mem_singleton.mpr rfl, t, _, m, hr, h1, h2, ⟨?_, g_s_ext hs⟩, g_M_ext hM⟩
  obtain ⟨k1, B1, lg1, o, c⟩ := z
  simp only at h3 h4
  subst h3
  cases lg1 with
  | false =>
    obtain ⟨c1, rfl, rfl⟩ := hy
    exact ⟨c1, rfl, h4⟩
  | true =>
    obtain ⟨c1, rfl, rfl⟩ := hy
    exact ⟨c1, rfl, h4⟩
theorem g_fit {b : Nat} {v : List Int} {ty : FieldType} {x : a_V} {y : Value} (h : a_fit ty x = true) (hv : g_v b v x y) : narrow ty y = y ∧ fits ty y = true := by
  unfold a_fit at h
  split at h
  · obtain ⟨z, rfl, -⟩ := hv; exact ⟨rfl, rfl⟩
  · obtain ⟨z, rfl, -⟩ := hv; exact ⟨rfl, rfl⟩
  · rename_i o
    cases o with
    | none => have hv : y = .null := hv; subst hv; exact ⟨rfl, rfl⟩
    | some a => have hv : y = .ref a := hv; subst hv; exact ⟨rfl, rfl⟩
  · rename_i o
    cases o with
    | none => have hv : y = .null := hv; subst hv; exact ⟨rfl, rfl⟩
    | some a => have hv : y = .ref a := hv; subst hv; exact ⟨rfl, rfl⟩
  · cases h
theorem g_refs {b : Nat} {v : List Int} {k : Nat} {B : a_B} {x : a_N} {z : Int32} {sa : List a_V} {ma : List a_C} {st : List Value} {m : q_M} (hk : v.length = k) (hB : g_B v B) (hx1 : x.1 = false) (hx : g_lin v x.2.1 x.2.2 z.toInt) (hs : g_s b v sa st) (hM : g_M b v ma m) :
    ∀ (rs : List (Option Nat)) (j : Int) (n : Nat) (o : Option Nat), rs[n]? = some o → z.toInt = j + n → g_QR b v (a_ref k B x sa ma j rs) (some (va_rf o :: st, m))
  | [], j, n, o, hn, hz => by simp at hn
  | r :: rs, j, 0, o, hn, hz => by
    simp at hn
    subst hn
    unfold a_ref
    obtain ⟨B1, h1, h2⟩ := g_asm (c := .eq) (y := (false, none, j)) hB hx (w := j) rfl (by rw [hx1]; exact g_o32 z) (Or.inl rfl) (by show z.toInt = j; omega)
    rw [h1]
    refine g_Q0 (List.mem_append_left _ (List.mem_singleton.mpr rfl)) rfl hk h2 ⟨?_, hs⟩ hM
    cases r <;> rfl
  | r :: rs, j, n + 1, o, hn, hz => by
    simp at hn
    unfold a_ref
    obtain ⟨p, hp, h⟩ := g_refs hk hB hx1 hx hs hM rs (j + 1) n o hn (by omega)
    exact ⟨p, List.mem_append_right _ hp, h⟩
theorem g_ac {b : Nat} {v : List Int} : ∀ {sa : List a_V} {st : List Value}, g_s b v sa st → a_ac sa = q_cats st
  | [], [], _ => rfl
  | x :: sa, y :: st, h => by
    have ih := g_ac h.2
    simp only [a_ac, q_cats, List.map_cons, List.sum_cons] at ih ⊢
    rw [ih, g_cat h.1]
  | [], _ :: _, h => h.elim
  | _ :: _, [], h => h.elim
theorem g_cpyu {f g : Nat → Int32} {n0 n1 sp dp w : Nat} {a1 a2 b1 b2 : Int} (hf : ∀ j, j < n0 → a1 ≤ (f j).toInt ∧ (f j).toInt ≤ a2) (hg : ∀ j, j < n1 → b1 ≤ (g j).toInt ∧ (g j).toInt ≤ b2) (hs : sp + w ≤ n0) : ∀ j, j < n1 → a_mn a1 b1 ≤ (va_cpy f g sp dp w j).toInt ∧ (va_cpy f g sp dp w j).toInt ≤ a_mx a2 b2 := by
  intro j hj
  unfold va_cpy
  split
  · have := hf (sp + (j - dp)) (by omega)
    exact ⟨Int.le_trans (a_mn_l _ _) this.1, Int.le_trans this.2 (a_mx_l _ _)⟩
  · exact ⟨Int.le_trans (a_mn_r _ _) (hg j hj).1, Int.le_trans (hg j hj).2 (a_mx_r _ _)⟩
theorem g_bool (x : Int32) : 0 ≤ (vp_nar .boolean x).toInt ∧ (vp_nar .boolean x).toInt ≤ 1 := by
  have h := g_and_r (x := x) (y := 1) (by decide)
  have e : vp_nar .boolean x = x &&& 1 := rfl
  rw [e]
  have e1 : (1 : Int32).toInt = 1 := by decide
  omega
theorem g_len {n : Nat} (h : n < 2147483648) : (Int32.ofNat n).toInt = (n : Int) := nI_toInt (n := n) (by omega)

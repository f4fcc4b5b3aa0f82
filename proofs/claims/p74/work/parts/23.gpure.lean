theorem g_ca {α β : Type} {R : α → β → Prop} {a : α} {as : List α} {st : List β} (h : g_2 R (a :: as) st) : ∃ y ys, st = y :: ys ∧ R a y ∧ g_2 R as ys := by
  match st, h with
  | y :: ys, h => exact ⟨y, ys, rfl, h.1, h.2⟩
theorem g_na {α β : Type} {R : α → β → Prop} {st : List β} (h : g_2 R ([] : List α) st) : st = [] := by
  match st, h with
  | [], _ => rfl
abbrev g_s (b : Nat) (v : List Int) (sa : List a_V) (st : List Value) : Prop := g_2 (g_v b v) sa st
abbrev g_L (b : Nat) (v : List Int) (la : a_L) (l : q_L) : Prop := g_2 (fun (p : Nat × a_V) (q : Nat × Value) => p.1 = q.1 ∧ g_v b v p.2 q.2) la l
theorem g_s_ext {b : Nat} {v t : List Int} {sa : List a_V} {st : List Value} (h : g_s b v sa st) : g_s b (v ++ t) sa st := g_2_mono (fun _ _ => g_v_ext) h
theorem g_L_ext {b : Nat} {v t : List Int} {la : a_L} {l : q_L} (h : g_L b v la l) : g_L b (v ++ t) la l := g_2_mono (fun _ _ h => ⟨h.1, g_v_ext h.2⟩) h
theorem g_cat {b : Nat} {v : List Int} {x : a_V} {y : Value} (h : g_v b v x y) : a_cat x = y.category := by
  match x, h with
  | .inl (false, o, c), h =>
    obtain ⟨z, rfl, -⟩ := h
    rfl
  | .inl (true, o, c), h =>
    obtain ⟨z, rfl, -⟩ := h
    rfl
  | .inr (.inl (some k)), h =>
    have h : y = .ref k := h
    subst h
    rfl
  | .inr (.inl none), h =>
    have h : y = .null := h
    subst h
    rfl
  | .inr (.inr _), h =>
    have h : y = .retAddr b := h
    subst h
    rfl
theorem g_get {b : Nat} {v : List Int} : ∀ {la : a_L} {l : q_L}, g_L b v la l → ∀ {k : Nat} {x : a_V}, a_get la k = some x → ∃ y, q_get l k = some y ∧ g_v b v x y
  | [], [], _, k, x, h => by simp [a_get] at h
  | p :: la, q :: l, hh, k, x, h => by
    unfold a_get at h
    split at h
    · rename_i hb
      have hb := Nat.eq_of_beq_eq_true hb
      cases h
      refine ⟨q.2, ?_, hh.1.2⟩
      unfold q_get
      rw [if_pos (by rw [← hh.1.1]; exact hb)]
    · rename_i hb
      obtain ⟨y, h1, h2⟩ := g_get hh.2 h
      refine ⟨y, ?_, h2⟩
      unfold q_get
      rw [if_neg]
      · exact h1
      · intro hq
        rw [← hh.1.1] at hq
        rw [hq, Nat.beq_refl] at hb
        cases hb
  | [], _ :: _, hh, _, _, _ => hh.elim
  | _ :: _, [], hh, _, _, _ => hh.elim
theorem g_flt {b : Nat} {v : List Int} (F : Nat → Nat → Bool) : ∀ {la : a_L} {l : q_L}, g_L b v la l → g_L b v (la.filter (fun q => F q.1 (a_cat q.2))) (l.filter (fun q => F q.1 q.2.category))
  | [], [], _ => trivial
  | p :: la, q :: l, hh => by
    have ih := g_flt F hh.2
    have e1 : F p.1 (a_cat p.2) = F q.1 q.2.category := by rw [hh.1.1, g_cat hh.1.2]
    simp only [List.filter_cons, e1]
    split
    · exact ⟨hh.1, ih⟩
    · exact ih
  | [], _ :: _, hh => hh.elim
  | _ :: _, [], hh => hh.elim
theorem g_s1 {b : Nat} {v : List Int} {la : a_L} {l : q_L} (h : g_L b v la l) {i : Nat} {x : a_V} {y : Value} (hx : g_v b v x y) : g_L b v (a_s1 la i x) (q_s1 l i y) := ⟨⟨rfl, hx⟩, g_flt (fun a c => !(a == i) && !(a + 1 == i && c == 2)) h⟩
theorem g_s2 {b : Nat} {v : List Int} {la : a_L} {l : q_L} (h : g_L b v la l) {i : Nat} {x : a_V} {y : Value} (hx : g_v b v x y) : g_L b v (a_s2 la i x) (q_s2 l i y) := ⟨⟨rfl, hx⟩, g_flt (fun a c => !(a == i) && (!(a == i + 1) && !(a + 1 == i && c == 2))) h⟩
def g_PR (b : Nat) (v : List Int) (ps : List a_P) (res : Option (Nat × q_L × List Value)) : Prop := ∃ p ∈ ps, ∃ (t : List Int) (l1 : q_L) (st1 : List Value), res = some (p.2.2.1, l1, st1) ∧ (v ++ t).length = p.1 ∧ g_B (v ++ t) p.2.1 ∧ g_L b (v ++ t) p.2.2.2.1 l1 ∧ g_s b (v ++ t) p.2.2.2.2 st1
theorem g_P0 {b : Nat} {v : List Int} {k : Nat} {B : a_B} {pc : Nat} {la : a_L} {sa : List a_V} {ps : List a_P} {l : q_L} {st : List Value} {res : Option (Nat × q_L × List Value)} (hm : (k, B, pc, la, sa) ∈ ps) (hr : res = some (pc, l, st)) (hk : v.length = k) (hB : g_B v B) (hl : g_L b v la l) (hs : g_s b v sa st) : g_PR b v ps res :=
  ⟨_, hm, [], l, st, hr, by simpa using hk, by simpa using hB, by simpa using hl, by simpa using hs⟩
theorem g_P1 {b : Nat} {v : List Int} {z : Nat × a_B × a_N} {lg : Bool} {w : Int} (hR : g_R v z lg w) {y : Value} (hy : match lg with | false => ∃ c : Int32, y = .int c ∧ c.toInt = w | true => ∃ c : Int64, y = .long c ∧ c.toInt = w) {pc : Nat} {la : a_L} {sa : List a_V} {l : q_L} {st : List Value} {res : Option (Nat × q_L × List Value)} (hr : res = some (pc, l, y :: st)) (hl : g_L b v la l) (hs : g_s b v sa st) : g_PR b v [(z.1, z.2.1, pc, la, .inl z.2.2 :: sa)] res := by
  obtain ⟨t, h1, h2, h3, h4⟩ := hR
  refine ⟨_, List.mem_singleton.mpr rfl, t, l, _, hr, h1, h2, g_L_ext hl, ?_, g_s_ext hs⟩
  obtain ⟨k1, B1, lg1, o, c⟩ := z
  simp only at h3 h4
  subst h3
  cases lg1 with
  | false =>
    obtain ⟨c1, rfl, rfl⟩ := hy
    exact ⟨c1, rfl, h4⟩
  | true =>
    obtain ⟨c1, rfl, rfl⟩ := hy
    exact ⟨c1, rfl, h4⟩
theorem g_sum32 {x y : Int32} {a b : Int × Int} (hx : a.1 ≤ x.toInt ∧ x.toInt ≤ a.2) (hy : b.1 ≤ y.toInt ∧ y.toInt ≤ b.2) : (a_sum false a b).1 ≤ (x + y).toInt ∧ (x + y).toInt ≤ (a_sum false a b).2 := by
  unfold a_sum
  split
  · rename_i h
    rw [g_add32 ⟨Int.le_trans h.1 (by omega), Int.le_trans (by omega) h.2⟩]
    simp only
    omega
  · exact g_in32 _
theorem g_dif32 {x y : Int32} {a b : Int × Int} (hx : a.1 ≤ x.toInt ∧ x.toInt ≤ a.2) (hy : b.1 ≤ y.toInt ∧ y.toInt ≤ b.2) : (a_dif false a b).1 ≤ (x - y).toInt ∧ (x - y).toInt ≤ (a_dif false a b).2 := by
  unfold a_dif
  split
  · rename_i h
    rw [g_sub32 ⟨Int.le_trans h.1 (by omega), Int.le_trans (by omega) h.2⟩]
    simp only
    omega
  · exact g_in32 _
theorem g_sum64 {x y : Int64} {a b : Int × Int} (hx : a.1 ≤ x.toInt ∧ x.toInt ≤ a.2) (hy : b.1 ≤ y.toInt ∧ y.toInt ≤ b.2) : (a_sum true a b).1 ≤ (x + y).toInt ∧ (x + y).toInt ≤ (a_sum true a b).2 := by
  unfold a_sum
  split
  · rename_i h
    rw [g_add64 ⟨Int.le_trans h.1 (by omega), Int.le_trans (by omega) h.2⟩]
    simp only
    omega
  · exact g_in64 _
theorem g_dif64 {x y : Int64} {a b : Int × Int} (hx : a.1 ≤ x.toInt ∧ x.toInt ≤ a.2) (hy : b.1 ≤ y.toInt ∧ y.toInt ≤ b.2) : (a_dif true a b).1 ≤ (x - y).toInt ∧ (x - y).toInt ≤ (a_dif true a b).2 := by
  unfold a_dif
  split
  · rename_i h
    rw [g_sub64 ⟨Int.le_trans h.1 (by omega), Int.le_trans (by omega) h.2⟩]
    simp only
    omega
  · exact g_in64 _
theorem g_mulb {x y : Int32} {a b : Int × Int} (hx : a.1 ≤ x.toInt ∧ x.toInt ≤ a.2) (hy : b.1 ≤ y.toInt ∧ y.toInt ≤ b.2) : (a_mul a b).1 ≤ (x * y).toInt ∧ (x * y).toInt ≤ (a_mul a b).2 := by
  unfold a_mul
  split
  · rename_i h
    have h1 : 0 ≤ x.toInt * y.toInt := Int.mul_nonneg (by omega) (by omega)
    have h2 : x.toInt * y.toInt ≤ a.2 * b.2 := Int.mul_le_mul hx.2 hy.2 (by omega) (by omega)
    have h3 : a.1 * b.1 ≤ x.toInt * y.toInt := Int.mul_le_mul hx.1 hy.1 (by omega) (by omega)
    rw [g_mul32 ⟨by show (-2147483648 : Int) ≤ _; omega, by show _ ≤ (2147483647 : Int); omega⟩]
    exact ⟨h3, h2⟩
  · exact g_in32 _
theorem g_and_r {x y : Int32} (h : 0 ≤ y.toInt) : 0 ≤ (x &&& y).toInt ∧ (x &&& y).toInt ≤ y.toInt := by
  have e : y.toInt = (y.toBitVec.toNat : Int) ∧ y.toBitVec.toNat < 2 ^ 31 := by
    have h1 : y.toInt = y.toBitVec.toInt := rfl
    rw [h1, BitVec.toInt_eq_toNat_cond] at h ⊢
    have := y.toBitVec.isLt
    split at h <;> rename_i hc
    · rw [if_pos hc]
      exact ⟨rfl, by omega⟩
    · omega
  have h2 : (x &&& y).toBitVec.toNat = x.toBitVec.toNat &&& y.toBitVec.toNat := by simp
  have h3 : (x &&& y).toBitVec.toNat ≤ y.toBitVec.toNat := by rw [h2]; exact Nat.and_le_right
  have h4 : (x &&& y).toInt = ((x &&& y).toBitVec.toNat : Int) := by
    show (x &&& y).toBitVec.toInt = _
    rw [BitVec.toInt_eq_toNat_cond, if_pos (by omega)]
  rw [h4, e.1]
  omega
theorem g_and_l {x y : Int32} (h : 0 ≤ x.toInt) : 0 ≤ (x &&& y).toInt ∧ (x &&& y).toInt ≤ x.toInt := by
  rw [Int32.and_comm]
  exact g_and_r h
theorem g_mskb {x y : Int32} {a b : Int × Int} (hx : a.1 ≤ x.toInt ∧ x.toInt ≤ a.2) (hy : b.1 ≤ y.toInt ∧ y.toInt ≤ b.2) : (a_msk a b).1 ≤ (x &&& y).toInt ∧ (x &&& y).toInt ≤ (a_msk a b).2 := by
  unfold a_msk
  split
  · have := g_and_r (x := x) (y := y) (by omega)
    simp only
    omega
  · split
    · have := g_and_l (x := x) (y := y) (by omega)
      simp only
      omega
    · exact g_in32 _
theorem g_shf {v : List Int} {B : a_B} (hB : g_B v B) {x z : a_N} {w d : Int} (hx : g_lin v x.2.1 x.2.2 w) (hw : x.2.1 = none ∨ g_in x.1 w) {lg : Bool} (h : a_shf B lg x d = some z) : z.1 = lg ∧ g_lin v z.2.1 z.2.2 (w + d) ∧ g_in lg (w + d) := by
  unfold a_shf at h
  split at h
  · rename_i hc
    cases h
    have hi := g_iv hB hx hw
    refine ⟨rfl, ?_, Int.le_trans hc.1 (by omega), Int.le_trans (by omega) hc.2⟩
    obtain ⟨lx, o, c⟩ := x
    cases o with
    | none =>
      have : w = c := hx
      show w + d = c + d
      omega
    | some i =>
      obtain ⟨u, h1, h2⟩ := hx
      simp only at h1 h2
      exact ⟨u, h1, by show w + d = u + (c + d); omega⟩
  · cases h
theorem g_add {v : List Int} {k : Nat} {B : a_B} (hk : v.length = k) (hB : g_B v B) {x y : a_N} {z w : Int32} (hx1 : x.1 = false) (hy1 : y.1 = false) (hx : g_lin v x.2.1 x.2.2 z.toInt) (hy : g_lin v y.2.1 y.2.2 w.toInt) : g_R v (a_add k B x y) false (z + w).toInt := by
  unfold a_add
  split
  · rename_i zz h1 h2
    rw [h1] at hy
    have hy : w.toInt = y.2.2 := hy
    rw [← hy] at h2
    obtain ⟨e1, e2, e3⟩ := g_shf hB hx (by rw [hx1]; exact g_o32 z) h2
    rw [g_add32 e3]
    exact g_R0 hk hB e1 e2
  · exact g_bin32 hk hB hx1 hy1 hx hy (fun a b => g_sum32)
theorem g_sub {v : List Int} {k : Nat} {B : a_B} (hk : v.length = k) (hB : g_B v B) {x y : a_N} {z w : Int32} (hx1 : x.1 = false) (hy1 : y.1 = false) (hx : g_lin v x.2.1 x.2.2 z.toInt) (hy : g_lin v y.2.1 y.2.2 w.toInt) : g_R v (a_sub k B x y) false (z - w).toInt := by
  unfold a_sub
  split
  · rename_i zz h1 h2
    rw [h1] at hy
    have hy : w.toInt = y.2.2 := hy
    rw [← hy] at h2
    obtain ⟨e1, e2, e3⟩ := g_shf hB hx (by rw [hx1]; exact g_o32 z) h2
    rw [← Int.sub_eq_add_neg] at e2 e3
    rw [g_sub32 e3]
    exact g_R0 hk hB e1 e2
  · exact g_bin32 hk hB hx1 hy1 hx hy (fun a b => g_dif32)
theorem g_nz {v : List Int} {B : a_B} (hB : g_B v B) {y : a_N} {w : Int32} (hy1 : y.1 = false) (hy : g_lin v y.2.1 y.2.2 w.toInt) (h : 0 < (a_iv B y).1 ∨ (a_iv B y).2 < 0) : ¬ w = 0 := by
  intro h0
  subst h0
  have := g_iv hB hy (by rw [hy1]; exact g_o32 0)
  rw [Int32.toInt_zero] at this
  omega
theorem g_to {b : Nat} {v : List Int} {k : Nat} {o : Option a_B} {B : a_B} {pc : Nat} {off : Int} {la : a_L} {sa : List a_V} {ps : List a_P} {l : q_L} {st : List Value} (ho : o = some B) (h : a_to k o pc off la sa = some ps) (hk : v.length = k) (hB : g_B v B) (hl : g_L b v la l) (hs : g_s b v sa st) : g_PR b v ps (q_to pc off l st) := by
  subst ho
  unfold a_to at h
  simp only at h
  unfold q_to
  split at h
  · rename_i hc
    cases h
    exact g_P0 (List.mem_singleton.mpr rfl) (by rw [if_pos hc]) hk hB hl hs
  · cases h
theorem g_cat2 {x y : Option (List a_P)} {ps : List a_P} (h : a_cats2 x y = some ps) : ∃ a b, x = some a ∧ y = some b ∧ ps = a ++ b := by
  unfold a_cats2 at h
  split at h
  · cases h
    exact ⟨_, _, rfl, rfl, rfl⟩
  · cases h
theorem g_PRl {b : Nat} {v : List Int} {ps qs : List a_P} {res : Option (Nat × q_L × List Value)} (h : g_PR b v ps res) : g_PR b v (ps ++ qs) res := by
  obtain ⟨p, hp, h⟩ := h
  exact ⟨p, List.mem_append_left _ hp, h⟩
theorem g_PRr {b : Nat} {v : List Int} {ps qs : List a_P} {res : Option (Nat × q_L × List Value)} (h : g_PR b v qs res) : g_PR b v (ps ++ qs) res := by
  obtain ⟨p, hp, h⟩ := h
  exact ⟨p, List.mem_append_right _ hp, h⟩
theorem g_arm {b : Nat} {v : List Int} {o : Option a_B} {B : a_B} {k pc : Nat} {la : a_L} {sa : List a_V} {l : q_L} {st : List Value} {res : Option (Nat × q_L × List Value)} (ho : o = some B) (hr : res = some (pc, l, st)) (hk : v.length = k) (hB : g_B v B) (hl : g_L b v la l) (hs : g_s b v sa st) : g_PR b v (a_arm o k pc la sa) res := by
  subst ho
  exact g_P0 (List.mem_singleton.mpr rfl) hr hk hB hl hs
theorem g_pth {b : Nat} {v : List Int} {k : Nat} {B : a_B} {pc : Nat} {c : Jvm.ClassFile.Cond} {x y : a_N} {z w : Int32} {la : a_L} {sa : List a_V} {l : q_L} {st : List Value} {res : Option (Nat × q_L × List Value)} (hr : res = some (pc, l, st)) (hk : v.length = k) (hB : g_B v B) (hx1 : x.1 = false) (hy1 : y.1 = false) (hx : g_lin v x.2.1 x.2.2 z.toInt) (hy : g_lin v y.2.1 y.2.2 w.toInt) (hc : g_c c z.toInt w.toInt) (hl : g_L b v la l) (hs : g_s b v sa st) : g_PR b v (a_pth k B c x y pc la sa) res := by
  have key : ∀ c : Jvm.ClassFile.Cond, g_c c z.toInt w.toInt → g_PR b v (a_arm (a_asm B c x y) k pc la sa) res := fun c hc => by
    obtain ⟨B1, e1, g1⟩ := g_asm hB hx hy (by rw [hx1]; exact g_o32 z) (by rw [hy1]; exact g_o32 w) hc
    exact g_arm e1 hr hk g1 hl hs
  cases c with
  | ne =>
    have hc : ¬ z.toInt = w.toInt := hc
    rcases Int.lt_or_gt_of_ne hc with h | h
    · exact g_PRl (key .lt h)
    · exact g_PRr (key .gt h)
  | _ => exact key _ hc
theorem g_br {b : Nat} {v : List Int} {k : Nat} {B : a_B} {pc len : Nat} {off : Int} {c : Jvm.ClassFile.Cond} {x y : a_N} {z w : Int32} {la : a_L} {sa : List a_V} {ps : List a_P} {l : q_L} {st : List Value} (h : a_br k B pc len off c x y la sa = some ps) (hk : v.length = k) (hB : g_B v B) (hx1 : x.1 = false) (hy1 : y.1 = false) (hx : g_lin v x.2.1 x.2.2 z.toInt) (hy : g_lin v y.2.1 y.2.2 w.toInt) (hl : g_L b v la l) (hs : g_s b v sa st) : g_PR b v ps (q_br pc len off (q_c c z w) l st) := by
  unfold a_br at h
  split at h
  rotate_left
  · cases h
  rename_i hpc
  cases h
  unfold q_br
  rw [if_pos hpc]
  cases hq : q_c c z w with
  | true => exact g_PRl (g_pth rfl hk hB hx1 hy1 hx hy ((g_c32 c z w).mp hq) hl hs)
  | false => exact g_PRr (g_pth rfl hk hB hx1 hy1 hx hy (g_c_opp (fun hc => by rw [(g_c32 c z w).mpr hc] at hq; cases hq)) hl hs)
theorem g_shrb {x y : Int32} {a b : Int × Int} (hx : a.1 ≤ x.toInt ∧ x.toInt ≤ a.2) : (a_shr a b).1 ≤ (x >>> (y &&& 31)).toInt ∧ (x >>> (y &&& 31)).toInt ≤ (a_shr a b).2 := by
  rw [pk_shr x (y &&& 31) _ rfl]
  generalize ((y &&& 31).toBitVec.smod 32).toNat = k
  rw [Int.shiftRight_eq_div_pow]
  have hp : (0 : Int) < ((2 ^ k : Nat) : Int) := by exact_mod_cast Nat.two_pow_pos k
  generalize ((2 ^ k : Nat) : Int) = d at hp
  unfold a_shr
  by_cases h0 : 0 ≤ x.toInt
  · have h1 : 0 ≤ x.toInt / d := Int.ediv_nonneg h0 (Int.le_of_lt hp)
    have h2 : x.toInt / d ≤ x.toInt := Int.ediv_le_self _ h0
    split
    · exact ⟨h1, Int.le_trans h2 hx.2⟩
    · exact ⟨by simp only; omega, Int.le_trans (Int.le_trans h2 hx.2) (a_mx_l _ _)⟩
  · have h1 : x.toInt / d ≤ -1 := by
      have := Int.ediv_neg_of_neg_of_pos (a := x.toInt) (b := d) (by omega) hp
      omega
    have h2 : x.toInt ≤ x.toInt / d := by
      have e := Int.mul_ediv_add_emod x.toInt d
      have e2 := Int.emod_nonneg x.toInt (Int.ne_of_gt hp)
      have e4 : d * (x.toInt / d) ≤ 1 * (x.toInt / d) := Int.mul_le_mul_of_nonpos_right (by omega) (by omega)
      have e3 := Int.emod_lt_of_pos x.toInt hp
      by_cases q : x.toInt / d < x.toInt
      · exfalso
        have e5 : d * (x.toInt / d) ≤ d * (x.toInt - 1) := Int.mul_le_mul_of_nonneg_left (by omega) (by omega)
        have e6 : d * (x.toInt - 1) = d * x.toInt - d := by rw [Int.mul_sub, Int.mul_one]
        have e7 : d * x.toInt ≤ 1 * x.toInt := Int.mul_le_mul_of_nonpos_right (by omega) (by omega)
        omega
      · omega
    split
    · omega
    · exact ⟨Int.le_trans hx.1 h2, Int.le_trans h1 (a_mx_r _ _)⟩
theorem g_tab {b : Nat} {v : List Int} {k : Nat} {B : a_B} {pc : Nat} {x : a_N} {z : Int32} {la : a_L} {sa : List a_V} {l : q_L} {st : List Value} (hk : v.length = k) (hB : g_B v B) (hx1 : x.1 = false) (hx : g_lin v x.2.1 x.2.2 z.toInt) (hl : g_L b v la l) (hs : g_s b v sa st) :
    ∀ (offs : List Int) (j : Int) (ps : List a_P), a_tab k B pc x la sa j offs = some ps → ∀ (n : Nat) (off : Int), offs[n]? = some off → z.toInt = j + n → g_PR b v ps (q_to pc off l st)
  | [], j, ps, h, n, off, hn, hz => by simp at hn
  | o :: offs, j, ps, h, 0, off, hn, hz => by
    simp at hn
    subst hn
    unfold a_tab at h
    obtain ⟨p1, p2, e1, e2, rfl⟩ := g_cat2 h
    obtain ⟨B1, h1, h2⟩ := g_asm (c := .eq) (y := (false, none, j)) hB hx (w := j) rfl (by rw [hx1]; exact g_o32 z) (Or.inl rfl) (by show z.toInt = j; omega)
    exact g_PRl (g_to h1 e1 hk h2 hl hs)
  | o :: offs, j, ps, h, n + 1, off, hn, hz => by
    simp at hn
    unfold a_tab at h
    obtain ⟨p1, p2, e1, e2, rfl⟩ := g_cat2 h
    exact g_PRr (g_tab hk hB hx1 hx hl hs offs (j + 1) p2 e2 n off hn (by omega))

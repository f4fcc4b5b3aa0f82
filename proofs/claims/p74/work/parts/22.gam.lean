/-! WHAT THE ABSTRACT THINGS MEAN: v gives the variables' values -/
def g_lin (v : List Int) (o : Option Nat) (c z : Int) : Prop := match o with
  | none => z = c
  | some i => ∃ w, v[i]? = some w ∧ z = w + c
def g_n (v : List Int) (x : a_N) (y : Value) : Prop := match x.1 with
  | false => ∃ z : Int32, y = .int z ∧ g_lin v x.2.1 x.2.2 z.toInt
  | true => ∃ z : Int64, y = .long z ∧ g_lin v x.2.1 x.2.2 z.toInt
def g_v (b : Nat) (v : List Int) (x : a_V) (y : Value) : Prop := match x with
  | .inl n => g_n v n y
  | .inr (.inl (some k)) => y = .ref k
  | .inr (.inl none) => y = .null
  | .inr (.inr _) => y = .retAddr b
def g_B (v : List Int) (B : a_B) : Prop := ∀ q ∈ B, ∃ w, v[q.1]? = some w ∧ q.2.1 ≤ w ∧ w ≤ q.2.2
def g_2 {α β : Type} (R : α → β → Prop) : List α → List β → Prop
  | [], [] => True
  | a :: as, b :: bs => R a b ∧ g_2 R as bs
  | _, _ => False
theorem g_2_len {α β : Type} {R : α → β → Prop} : ∀ {as : List α} {bs : List β}, g_2 R as bs → as.length = bs.length
  | [], [], _ => rfl
  | a :: as, b :: bs, h => by simp [g_2_len h.2]
  | [], _ :: _, h => h.elim
  | _ :: _, [], h => h.elim
theorem g_2_get {α β : Type} {R : α → β → Prop} : ∀ {as : List α} {bs : List β}, g_2 R as bs → ∀ {i : Nat} {a : α}, as[i]? = some a → ∃ b, bs[i]? = some b ∧ R a b
  | [], [], _, i, a, h => by simp at h
  | x :: as, y :: bs, hh, 0, a, h => by
    simp at h
    subst h
    exact ⟨y, by simp, hh.1⟩
  | x :: as, y :: bs, hh, i + 1, a, h => by
    simp at h
    obtain ⟨b, h1, h2⟩ := g_2_get hh.2 h
    exact ⟨b, by simpa using h1, h2⟩
  | [], _ :: _, hh, _, _, _ => hh.elim
  | _ :: _, [], hh, _, _, _ => hh.elim
theorem g_2_mono {α β : Type} {R S : α → β → Prop} (hRS : ∀ a b, R a b → S a b) : ∀ {as : List α} {bs : List β}, g_2 R as bs → g_2 S as bs
  | [], [], _ => trivial
  | a :: as, b :: bs, h => ⟨hRS _ _ h.1, g_2_mono hRS h.2⟩
  | [], _ :: _, h => h.elim
  | _ :: _, [], h => h.elim
theorem g_2_set {α β : Type} {R : α → β → Prop} : ∀ {as : List α} {bs : List β}, g_2 R as bs → ∀ {i : Nat} {a : α} {b : β}, R a b → g_2 R (as.set i a) (bs.set i b)
  | [], [], _, i, a, b, _ => trivial
  | x :: as, y :: bs, hh, 0, a, b, h => ⟨h, hh.2⟩
  | x :: as, y :: bs, hh, i + 1, a, b, h => ⟨hh.1, g_2_set hh.2 h⟩
  | [], _ :: _, hh, _, _, _, _ => hh.elim
  | _ :: _, [], hh, _, _, _, _ => hh.elim
theorem g_2_app {α β : Type} {R : α → β → Prop} : ∀ {as : List α} {bs : List β} {cs : List α} {ds : List β}, g_2 R as bs → g_2 R cs ds → g_2 R (as ++ cs) (bs ++ ds)
  | [], [], cs, ds, _, h => h
  | x :: as, y :: bs, cs, ds, hh, h => ⟨hh.1, g_2_app hh.2 h⟩
  | [], _ :: _, _, _, hh, _ => hh.elim
  | _ :: _, [], _, _, hh, _ => hh.elim
theorem g_2_take {α β : Type} {R : α → β → Prop} : ∀ (n : Nat) {as : List α} {bs : List β}, g_2 R as bs → g_2 R (as.take n) (bs.take n)
  | 0, _, _, _ => by simp [g_2]
  | n + 1, [], [], _ => by simp [g_2]
  | n + 1, x :: as, y :: bs, hh => ⟨hh.1, g_2_take n hh.2⟩
  | _ + 1, [], _ :: _, hh => hh.elim
  | _ + 1, _ :: _, [], hh => hh.elim
theorem g_2_drop {α β : Type} {R : α → β → Prop} : ∀ (n : Nat) {as : List α} {bs : List β}, g_2 R as bs → g_2 R (as.drop n) (bs.drop n)
  | 0, _, _, h => h
  | n + 1, [], [], _ => by simp [g_2]
  | n + 1, x :: as, y :: bs, hh => g_2_drop n hh.2
  | _ + 1, [], _ :: _, hh => hh.elim
  | _ + 1, _ :: _, [], hh => hh.elim
theorem g_2_rev {α β : Type} {R : α → β → Prop} : ∀ {as : List α} {bs : List β}, g_2 R as bs → g_2 R as.reverse bs.reverse
  | [], [], _ => trivial
  | x :: as, y :: bs, hh => by
    rw [List.reverse_cons, List.reverse_cons]
    exact g_2_app (g_2_rev hh.2) ⟨hh.1, trivial⟩
  | [], _ :: _, hh => hh.elim
  | _ :: _, [], hh => hh.elim
theorem g_lin_ext {v t : List Int} {o : Option Nat} {c z : Int} (h : g_lin v o c z) : g_lin (v ++ t) o c z := by
  cases o with
  | none => exact h
  | some i =>
    obtain ⟨w, h1, h2⟩ := h
    exact ⟨w, by rw [List.getElem?_append_left (List.getElem?_eq_some_iff.mp h1).1]; exact h1, h2⟩
theorem g_n_ext {v t : List Int} {x : a_N} {y : Value} (h : g_n v x y) : g_n (v ++ t) x y := by
  obtain ⟨lg, o, c⟩ := x
  cases lg with
  | false =>
    obtain ⟨z, h1, h2⟩ := h
    exact ⟨z, h1, g_lin_ext h2⟩
  | true =>
    obtain ⟨z, h1, h2⟩ := h
    exact ⟨z, h1, g_lin_ext h2⟩
theorem g_v_ext {b : Nat} {v t : List Int} {x : a_V} {y : Value} (h : g_v b v x y) : g_v b (v ++ t) x y := by
  match x, h with
  | .inl n, h => exact g_n_ext h
  | .inr (.inl (some k)), h => exact h
  | .inr (.inl none), h => exact h
  | .inr (.inr _), h => exact h
theorem g_B_ext {v t : List Int} {B : a_B} (h : g_B v B) : g_B (v ++ t) B := by
  intro q hq
  obtain ⟨w, h1, h2⟩ := h q hq
  exact ⟨w, by rw [List.getElem?_append_left (List.getElem?_eq_some_iff.mp h1).1]; exact h1, h2⟩
theorem g_bd {v : List Int} : ∀ {B : a_B}, g_B v B → ∀ {i : Nat} {q : Int × Int}, a_bd B i = some q → ∃ w, v[i]? = some w ∧ q.1 ≤ w ∧ w ≤ q.2
  | [], _, i, q, h => by simp [a_bd] at h
  | p :: B, hB, i, q, h => by
    unfold a_bd at h
    split at h
    · rename_i hb
      have hb := Nat.eq_of_beq_eq_true hb
      cases h
      subst hb
      exact hB p List.mem_cons_self
    · exact g_bd (fun z hz => hB z (List.mem_cons_of_mem _ hz)) h
theorem a_mx_le {a b c : Int} (h1 : a ≤ c) (h2 : b ≤ c) : a_mx a b ≤ c := by unfold a_mx; split <;> assumption
theorem a_mn_ge {a b c : Int} (h1 : c ≤ a) (h2 : c ≤ b) : c ≤ a_mn a b := by unfold a_mn; split <;> assumption
theorem a_mx_l (a b : Int) : a ≤ a_mx a b := by unfold a_mx; split <;> omega
theorem a_mx_r (a b : Int) : b ≤ a_mx a b := by unfold a_mx; split <;> omega
theorem a_mn_l (a b : Int) : a_mn a b ≤ a := by unfold a_mn; split <;> omega
theorem a_mn_r (a b : Int) : a_mn a b ≤ b := by unfold a_mn; split <;> omega
def g_in (lg : Bool) (z : Int) : Prop := (a_rng lg).1 ≤ z ∧ z ≤ (a_rng lg).2
theorem g_in32 (x : Int32) : g_in false x.toInt := by
  have h1 := Int32.le_toInt x
  have h2 := Int32.toInt_lt x
  exact ⟨by show (-2147483648 : Int) ≤ _; omega, by show _ ≤ (2147483647 : Int); omega⟩
theorem g_in64 (x : Int64) : g_in true x.toInt := by
  have h1 := Int64.le_toInt x
  have h2 := Int64.toInt_lt x
  exact ⟨by show (-9223372036854775808 : Int) ≤ _; omega, by show _ ≤ (9223372036854775807 : Int); omega⟩
theorem g_o32 {o : Option Nat} (x : Int32) : o = none ∨ g_in false x.toInt := Or.inr (g_in32 x)
theorem g_o64 {o : Option Nat} (x : Int64) : o = none ∨ g_in true x.toInt := Or.inr (g_in64 x)
theorem g_iv {v : List Int} {B : a_B} (hB : g_B v B) {x : a_N} {z : Int} (hx : g_lin v x.2.1 x.2.2 z) (hz : x.2.1 = none ∨ g_in x.1 z) : (a_iv B x).1 ≤ z ∧ z ≤ (a_iv B x).2 := by
  obtain ⟨lg, o, c⟩ := x
  cases o with
  | none =>
    have : z = c := hx
    subst this
    exact ⟨Int.le_refl _, Int.le_refl _⟩
  | some i =>
    obtain ⟨w, h1, h2⟩ := hx
    have hz : g_in lg z := hz.elim (fun q => by cases q) id
    simp only at h1 h2
    simp only [a_iv]
    cases hb : a_bd B i with
    | none => exact hz
    | some q =>
      obtain ⟨w2, h3, h4, h5⟩ := g_bd hB hb
      rw [h1] at h3
      cases h3
      exact ⟨a_mx_le (by omega) hz.1, a_mn_ge (by omega) hz.2⟩
theorem g_rf {v : List Int} {B : a_B} (hB : g_B v B) {x : a_N} {z lo hi : Int} (hx : g_lin v x.2.1 x.2.2 z) (h1 : lo ≤ z) (h2 : z ≤ hi) : g_B v (a_rf B x lo hi) := by
  obtain ⟨lg, o, c⟩ := x
  cases o with
  | none => exact hB
  | some i =>
    obtain ⟨w, e1, e2⟩ := hx
    simp only at e1 e2
    simp only [a_rf]
    cases hb : a_bd B i with
    | none =>
      intro q hq
      rcases List.mem_cons.mp hq with rfl | hq
      · exact ⟨w, e1, by show lo - c ≤ w; omega, by show w ≤ hi - c; omega⟩
      · exact hB q hq
    | some q0 =>
      obtain ⟨w2, h3, h4, h5⟩ := g_bd hB hb
      rw [e1] at h3
      cases h3
      intro q hq
      rcases List.mem_cons.mp hq with rfl | hq
      · exact ⟨w, e1, a_mx_le h4 (by omega), a_mn_ge h5 (by omega)⟩
      · exact hB q hq
/-- a comparison, of integers -/
def g_c (c : Jvm.ClassFile.Cond) (x y : Int) : Prop := match c with
  | .eq => x = y
  | .ne => ¬ x = y
  | .lt => x < y
  | .ge => y ≤ x
  | .gt => y < x
  | .le => x ≤ y
theorem g_c_swp {c : Jvm.ClassFile.Cond} {x y : Int} (h : g_c c x y) : g_c (a_swp c) y x := by
  cases c <;> simp only [g_c, a_swp] at * <;> omega
theorem g_c_opp {c : Jvm.ClassFile.Cond} {x y : Int} (h : ¬ g_c c x y) : g_c (a_opp c) x y := by
  cases c <;> simp only [g_c, a_opp] at * <;> omega
theorem g_lim {c : Jvm.ClassFile.Cond} {a b : Int × Int} {x y : Int} (ha : a.1 ≤ x ∧ x ≤ a.2) (hb : b.1 ≤ y ∧ y ≤ b.2) (h : g_c c x y) : (a_lim c a b).1 ≤ x ∧ x ≤ (a_lim c a b).2 := by
  cases c <;> simp only [g_c, a_lim] at *
  · omega
  · split
    · simp only; omega
    · split
      · simp only; omega
      · exact ha
  · omega
  · omega
  · omega
  · omega
theorem g_asm {v : List Int} {B : a_B} (hB : g_B v B) {c : Jvm.ClassFile.Cond} {x y : a_N} {z w : Int} (hx : g_lin v x.2.1 x.2.2 z) (hy : g_lin v y.2.1 y.2.2 w) (hz : x.2.1 = none ∨ g_in x.1 z) (hw : y.2.1 = none ∨ g_in y.1 w) (h : g_c c z w) : ∃ B1, a_asm B c x y = some B1 ∧ g_B v B1 := by
  have ha := g_iv hB hx hz
  have hb := g_iv hB hy hw
  have hp := g_lim ha hb h
  have hq := g_lim hb ha (g_c_swp h)
  unfold a_asm
  rw [if_pos ⟨Int.le_trans (a_mx_le ha.1 hp.1) (a_mn_ge ha.2 hp.2), Int.le_trans (a_mx_le hb.1 hq.1) (a_mn_ge hb.2 hq.2)⟩]
  exact ⟨_, rfl, g_rf (g_rf hB hx hp.1 hp.2) hy hq.1 hq.2⟩
theorem g_c32 (c : Jvm.ClassFile.Cond) (x y : Int32) : q_c c x y = true ↔ g_c c x.toInt y.toInt := by
  cases c <;> simp only [q_c, g_c, decide_eq_true_eq, Int32.lt_iff_toInt_lt, Int32.le_iff_toInt_le, Int32.toInt_inj]
/-- a number that a step makes -/
def g_R (v : List Int) (r : Nat × a_B × a_N) (lg : Bool) (z : Int) : Prop := ∃ t : List Int, (v ++ t).length = r.1 ∧ g_B (v ++ t) r.2.1 ∧ r.2.2.1 = lg ∧ g_lin (v ++ t) r.2.2.2.1 r.2.2.2.2 z
theorem g_R0 {v : List Int} {k : Nat} {B : a_B} (hk : v.length = k) (hB : g_B v B) {x : a_N} {lg : Bool} {z : Int} (h1 : x.1 = lg) (h2 : g_lin v x.2.1 x.2.2 z) : g_R v (k, B, x) lg z := ⟨[], by simpa using hk, by simpa using hB, h1, by simpa using h2⟩
theorem g_new {v : List Int} {k : Nat} {B : a_B} (hk : v.length = k) (hB : g_B v B) {lg : Bool} {lo hi z : Int} (h1 : lo ≤ z) (h2 : z ≤ hi) : g_R v (a_new k B lg lo hi) lg z := by
  have hv : (v ++ [z])[k]? = some z := by
    subst hk
    simp
  refine ⟨[z], by simp [a_new, hk], ?_, rfl, z, hv, by simp [a_new]⟩
  intro q hq
  rcases List.mem_cons.mp hq with rfl | hq
  · exact ⟨z, hv, h1, h2⟩
  · exact g_B_ext hB q hq
theorem g_top {v : List Int} {k : Nat} {B : a_B} (hk : v.length = k) (hB : g_B v B) {lg : Bool} {z : Int} (h : g_in lg z) : g_R v (a_top k B lg) lg z := g_new hk hB h.1 h.2
theorem g_bin32 {v : List Int} {k : Nat} {B : a_B} (hk : v.length = k) (hB : g_B v B) {op : Int32 → Int32 → Int32} {iv : Int × Int → Int × Int → Int × Int} {x y : a_N} {z w : Int32} (hx1 : x.1 = false) (hy1 : y.1 = false) (hx : g_lin v x.2.1 x.2.2 z.toInt) (hy : g_lin v y.2.1 y.2.2 w.toInt)
    (hiv : ∀ a b : Int × Int, a.1 ≤ z.toInt ∧ z.toInt ≤ a.2 → b.1 ≤ w.toInt ∧ w.toInt ≤ b.2 → (iv a b).1 ≤ (op z w).toInt ∧ (op z w).toInt ≤ (iv a b).2) : g_R v (a_bin32 k B op iv x y) false (op z w).toInt := by
  have ha := g_iv hB hx (by rw [hx1]; exact g_o32 z)
  have hb := g_iv hB hy (by rw [hy1]; exact g_o32 w)
  unfold a_bin32
  simp only
  split
  · rename_i h
    refine g_R0 hk hB rfl ?_
    have e1 : Int32.ofInt (a_iv B x).1 = z := by
      rw [show (a_iv B x).1 = z.toInt by omega]
      exact Int32.ofInt_toInt z
    have e2 : Int32.ofInt (a_iv B y).1 = w := by
      rw [show (a_iv B y).1 = w.toInt by omega]
      exact Int32.ofInt_toInt w
    rw [e1, e2]
    rfl
  · exact g_new hk hB (hiv _ _ ha hb).1 (hiv _ _ ha hb).2
theorem g_bin64 {v : List Int} {k : Nat} {B : a_B} (hk : v.length = k) (hB : g_B v B) {op : Int64 → Int64 → Int64} {iv : Int × Int → Int × Int → Int × Int} {x y : a_N} {z w : Int64} (hx1 : x.1 = true) (hy1 : y.1 = true) (hx : g_lin v x.2.1 x.2.2 z.toInt) (hy : g_lin v y.2.1 y.2.2 w.toInt)
    (hiv : ∀ a b : Int × Int, a.1 ≤ z.toInt ∧ z.toInt ≤ a.2 → b.1 ≤ w.toInt ∧ w.toInt ≤ b.2 → (iv a b).1 ≤ (op z w).toInt ∧ (op z w).toInt ≤ (iv a b).2) : g_R v (a_bin64 k B op iv x y) true (op z w).toInt := by
  have ha := g_iv hB hx (by rw [hx1]; exact g_o64 z)
  have hb := g_iv hB hy (by rw [hy1]; exact g_o64 w)
  unfold a_bin64
  simp only
  split
  · rename_i h
    refine g_R0 hk hB rfl ?_
    have e1 : Int64.ofInt (a_iv B x).1 = z := by
      rw [show (a_iv B x).1 = z.toInt by omega]
      exact Int64.ofInt_toInt z
    have e2 : Int64.ofInt (a_iv B y).1 = w := by
      rw [show (a_iv B y).1 = w.toInt by omega]
      exact Int64.ofInt_toInt w
    rw [e1, e2]
    rfl
  · exact g_new hk hB (hiv _ _ ha hb).1 (hiv _ _ ha hb).2
theorem g_all32 (x : Int32) (a b : Int × Int) : (a_all32 a b).1 ≤ x.toInt ∧ x.toInt ≤ (a_all32 a b).2 := g_in32 x
theorem g_all64 (x : Int64) (a b : Int × Int) : (a_all64 a b).1 ≤ x.toInt ∧ x.toInt ≤ (a_all64 a b).2 := g_in64 x
/-- within bounds an operation of 32 bits is the integers' own -/
theorem g_add32 {x y : Int32} (h : g_in false (x.toInt + y.toInt)) : (x + y).toInt = x.toInt + y.toInt := by
  rw [Int32.toInt_add]
  have h1 : (-2147483648 : Int) ≤ x.toInt + y.toInt := h.1
  have h2 : x.toInt + y.toInt ≤ (2147483647 : Int) := h.2
  exact Int.bmod_eq_of_le (by omega) (by omega)
theorem g_sub32 {x y : Int32} (h : g_in false (x.toInt - y.toInt)) : (x - y).toInt = x.toInt - y.toInt := by
  rw [Int32.toInt_sub]
  have h1 : (-2147483648 : Int) ≤ x.toInt - y.toInt := h.1
  have h2 : x.toInt - y.toInt ≤ (2147483647 : Int) := h.2
  exact Int.bmod_eq_of_le (by omega) (by omega)
theorem g_mul32 {x y : Int32} (h : g_in false (x.toInt * y.toInt)) : (x * y).toInt = x.toInt * y.toInt := by
  rw [Int32.toInt_mul]
  have h1 : (-2147483648 : Int) ≤ x.toInt * y.toInt := h.1
  have h2 : x.toInt * y.toInt ≤ (2147483647 : Int) := h.2
  exact Int.bmod_eq_of_le (by omega) (by omega)
theorem g_add64 {x y : Int64} (h : g_in true (x.toInt + y.toInt)) : (x + y).toInt = x.toInt + y.toInt := by
  rw [Int64.toInt_add]
  have h1 : (-9223372036854775808 : Int) ≤ x.toInt + y.toInt := h.1
  have h2 : x.toInt + y.toInt ≤ (9223372036854775807 : Int) := h.2
  exact Int.bmod_eq_of_le (by omega) (by omega)
theorem g_sub64 {x y : Int64} (h : g_in true (x.toInt - y.toInt)) : (x - y).toInt = x.toInt - y.toInt := by
  rw [Int64.toInt_sub]
  have h1 : (-9223372036854775808 : Int) ≤ x.toInt - y.toInt := h.1
  have h2 : x.toInt - y.toInt ≤ (9223372036854775807 : Int) := h.2
  exact Int.bmod_eq_of_le (by omega) (by omega)

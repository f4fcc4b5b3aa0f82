/-! THE CHECKER OF CERTIFICATES: linear terms over variables, bounds, known terms that are at least 0 -/
abbrev b_T : Type := List (Nat × Int) × Int
abbrev b_N : Type := Bool × b_T
abbrev b_V : Type := b_N ⊕ (Nat ⊕ Nat)
abbrev b_L : Type := List (Nat × b_V)
/-- a variable's part put into a sum -/
def b_ins (i : Nat) (k : Int) (l : List (Nat × Int)) : List (Nat × Int) := match l with
  | [] => [(i, k)]
  | q :: l => match Nat.beq q.1 i with
    | true => if q.2 + k = 0 then l else (i, q.2 + k) :: l
    | false => match Nat.blt i q.1 with
      | true => (i, k) :: q :: l
      | false => q :: b_ins i k l
/-- a + k * b -/
def b_adl (a : List (Nat × Int)) (k : Int) (b : List (Nat × Int)) : List (Nat × Int) := match b with
  | [] => a
  | q :: b => b_ins q.1 (k * q.2) (b_adl a k b)
def b_ad (a : b_T) (k : Int) (b : b_T) : b_T := (b_adl a.1 k b.1, a.2 + k * b.2)
def b_c (c : Int) : b_T := ([], c)
def b_scl (k : Int) (l : List (Nat × Int)) : List (Nat × Int) := match l with
  | [] => []
  | q :: l => (q.1, k * q.2) :: b_scl k l
def b_sc (k : Int) (a : b_T) : b_T := if k = 0 then ([], 0) else (b_scl k a.1, k * a.2)
/-- its value, where all its variables have one -/
def b_vs (v : List Int) (l : List (Nat × Int)) : Option Int := match l with
  | [] => some 0
  | q :: l => match v[q.1]?, b_vs v l with
    | some w, some s => some (q.2 * w + s)
    | _, _ => none
def b_is (v : List Int) (t : b_T) (z : Int) : Prop := ∃ s, b_vs v t.1 = some s ∧ z = s + t.2
theorem b_vs_cons {v : List Int} {q : Nat × Int} {l : List (Nat × Int)} {s : Int} : b_vs v (q :: l) = some s ↔ ∃ w r, v[q.1]? = some w ∧ b_vs v l = some r ∧ s = q.2 * w + r := by
  have e : b_vs v (q :: l) = (match v[q.1]?, b_vs v l with | some w, some s => some (q.2 * w + s) | _, _ => none) := rfl
  rw [e]
  constructor
  · intro h
    split at h
    · rename_i w r h1 h2
      cases h
      exact ⟨w, r, h1, h2, rfl⟩
    · cases h
  · rintro ⟨w, r, h1, h2, rfl⟩
    rw [h1, h2]
theorem b_vs_ins {v : List Int} {i : Nat} {k w : Int} (hw : v[i]? = some w) : ∀ {l : List (Nat × Int)} {s : Int}, b_vs v l = some s → b_vs v (b_ins i k l) = some (k * w + s)
  | [], s, h => by
    cases h
    exact b_vs_cons.mpr ⟨w, 0, hw, rfl, rfl⟩
  | q :: l, s, h => by
    obtain ⟨u, r, h1, h2, rfl⟩ := b_vs_cons.mp h
    unfold b_ins
    split
    · rename_i hb
      have hb := Nat.eq_of_beq_eq_true hb
      rw [hb, hw] at h1
      cases h1
      split
      · rename_i h0
        rw [h2]
        congr 1
        have : (q.2 + k) * w = 0 := by rw [h0, Int.zero_mul]
        rw [Int.add_mul] at this
        omega
      · refine b_vs_cons.mpr ⟨w, r, hw, h2, ?_⟩
        show _ = (q.2 + k) * w + r
        rw [Int.add_mul]
        omega
    · split
      · exact b_vs_cons.mpr ⟨w, _, hw, h, rfl⟩
      · refine b_vs_cons.mpr ⟨u, _, h1, b_vs_ins hw h2, ?_⟩
        omega
theorem b_vs_adl {v : List Int} {a : List (Nat × Int)} {k s : Int} (ha : b_vs v a = some s) : ∀ {b : List (Nat × Int)} {r : Int}, b_vs v b = some r → b_vs v (b_adl a k b) = some (s + k * r)
  | [], r, h => by
    cases h
    rw [b_adl, ha]
    simp
  | q :: b, r, h => by
    obtain ⟨w, r1, h1, h2, rfl⟩ := b_vs_cons.mp h
    rw [b_adl, b_vs_ins h1 (b_vs_adl ha h2)]
    congr 1
    rw [Int.mul_add, Int.mul_assoc]
    omega
theorem b_is_ad {v : List Int} {a b : b_T} {k x y : Int} (ha : b_is v a x) (hb : b_is v b y) : b_is v (b_ad a k b) (x + k * y) := by
  obtain ⟨s, h1, rfl⟩ := ha
  obtain ⟨r, h2, rfl⟩ := hb
  refine ⟨_, b_vs_adl h1 h2, ?_⟩
  show _ = s + k * r + (a.2 + k * b.2)
  rw [Int.mul_add]
  omega
theorem b_is_c {v : List Int} (c : Int) : b_is v (b_c c) c := ⟨0, rfl, by simp [b_c]⟩
theorem b_vs_scl {v : List Int} {k : Int} : ∀ {l : List (Nat × Int)} {s : Int}, b_vs v l = some s → b_vs v (b_scl k l) = some (k * s)
  | [], s, h => by
    cases h
    rw [b_scl, Int.mul_zero]
    rfl
  | q :: l, s, h => by
    obtain ⟨w, r, h1, h2, rfl⟩ := b_vs_cons.mp h
    rw [b_scl]
    refine b_vs_cons.mpr ⟨w, _, h1, b_vs_scl h2, ?_⟩
    show _ = k * q.2 * w + k * r
    rw [Int.mul_add, Int.mul_assoc]
theorem b_is_sc {v : List Int} {k : Int} {a : b_T} {x : Int} (ha : b_is v a x) : b_is v (b_sc k a) (k * x) := by
  obtain ⟨s, h1, rfl⟩ := ha
  unfold b_sc
  split
  · rename_i h0
    subst h0
    exact ⟨0, rfl, by simp⟩
  · refine ⟨_, b_vs_scl h1, ?_⟩
    show _ = k * s + k * a.2
    rw [Int.mul_add]
theorem b_is_uniq {v : List Int} {t : b_T} {x y : Int} (h1 : b_is v t x) (h2 : b_is v t y) : x = y := by
  obtain ⟨s, e1, rfl⟩ := h1
  obtain ⟨r, e2, rfl⟩ := h2
  rw [e1] at e2
  cases e2
  rfl
theorem b_vs_ext {v t : List Int} : ∀ {l : List (Nat × Int)} {s : Int}, b_vs v l = some s → b_vs (v ++ t) l = some s
  | [], s, h => h
  | q :: l, s, h => by
    obtain ⟨w, r, h1, h2, rfl⟩ := b_vs_cons.mp h
    exact b_vs_cons.mpr ⟨w, r, by rw [List.getElem?_append_left (List.getElem?_eq_some_iff.mp h1).1]; exact h1, b_vs_ext h2, rfl⟩
theorem b_is_ext {v t : List Int} {a : b_T} {x : Int} (h : b_is v a x) : b_is (v ++ t) a x := by
  obtain ⟨s, h1, h2⟩ := h
  exact ⟨s, b_vs_ext h1, h2⟩
theorem b_is_var {v : List Int} {i : Nat} {w : Int} (h : v[i]? = some w) : b_is v ([(i, 1)], 0) w := ⟨1 * w + 0, b_vs_cons.mpr ⟨w, 0, h, rfl, rfl⟩, by show w = 1 * w + 0 + 0; omega⟩
/-- bounds of a sum -/
def b_ivl (B : a_B) (l : List (Nat × Int)) : Option (Int × Int) := match l with
  | [] => some (0, 0)
  | q :: l => match a_bd B q.1, b_ivl B l with
    | some r, some s => if 0 ≤ q.2 then some (q.2 * r.1 + s.1, q.2 * r.2 + s.2) else some (q.2 * r.2 + s.1, q.2 * r.1 + s.2)
    | _, _ => none
def b_iv (B : a_B) (t : b_T) : Option (Int × Int) := match b_ivl B t.1 with
  | some s => some (s.1 + t.2, s.2 + t.2)
  | none => none
theorem b_mul_le {k a b : Int} (hk : 0 ≤ k) (h : a ≤ b) : k * a ≤ k * b := Int.mul_le_mul_of_nonneg_left h hk
theorem b_mul_ge {k a b : Int} (hk : ¬ 0 ≤ k) (h : a ≤ b) : k * b ≤ k * a := Int.mul_le_mul_of_nonpos_left (by omega) h
theorem b_ivl_ok {v : List Int} {B : a_B} (hB : g_B v B) : ∀ {l : List (Nat × Int)} {p : Int × Int} {s : Int}, b_ivl B l = some p → b_vs v l = some s → p.1 ≤ s ∧ s ≤ p.2
  | [], p, s, h, hs => by
    cases h
    cases hs
    exact ⟨Int.le_refl _, Int.le_refl _⟩
  | q :: l, p, s, h, hs => by
    obtain ⟨w, r, h1, h2, rfl⟩ := b_vs_cons.mp hs
    unfold b_ivl at h
    split at h
    rotate_left
    · cases h
    rename_i r1 s1 e1 e2
    obtain ⟨w2, e3, e4, e5⟩ := g_bd hB e1
    rw [h1] at e3
    cases e3
    have ih := b_ivl_ok hB e2 h2
    split at h
    · rename_i hk
      cases h
      have a1 := b_mul_le hk e4
      have a2 := b_mul_le hk e5
      simp only
      omega
    · rename_i hk
      cases h
      have a1 := b_mul_ge hk e4
      have a2 := b_mul_ge hk e5
      simp only
      omega
theorem b_iv_ok {v : List Int} {B : a_B} (hB : g_B v B) {t : b_T} {p : Int × Int} {z : Int} (h : b_iv B t = some p) (hz : b_is v t z) : p.1 ≤ z ∧ z ≤ p.2 := by
  obtain ⟨s, h1, rfl⟩ := hz
  unfold b_iv at h
  split at h
  · rename_i q e
    cases h
    have := b_ivl_ok hB e h1
    simp only
    omega
  · cases h
/-- what is known: terms that are at least 0 -/
def bg_C (v : List Int) (C : List b_T) : Prop := ∀ c ∈ C, ∃ z, b_is v c z ∧ 0 ≤ z
theorem bg_C_ext {v t : List Int} {C : List b_T} (h : bg_C v C) : bg_C (v ++ t) C := fun c hc => by
  obtain ⟨z, h1, h2⟩ := h c hc
  exact ⟨z, b_is_ext h1, h2⟩
def b_cf (l : List (Nat × Int)) (i : Nat) : Int := match l with
  | [] => 0
  | q :: l => match Nat.beq q.1 i with
    | true => q.2
    | false => b_cf l i
/-- a term less some times a known one: the best least bound -/
def b_stp (B : a_B) (c e : b_T) : List (Nat × Int) → b_T × Int → b_T × Int
  | [], r => r
  | q :: l, r =>
    let k := b_cf e.1 q.1 / q.2
    if 0 < k ∧ k * q.2 = b_cf e.1 q.1 then
      (match b_iv B (b_ad e (-k) c) with
      | some p => if r.2 < p.1 then b_stp B c e l (b_ad e (-k) c, p.1) else b_stp B c e l r
      | none => b_stp B c e l r)
    else b_stp B c e l r
def b_enl (B : a_B) : List b_T → b_T × Int → Bool
  | [], r => decide (0 ≤ r.2)
  | c :: C, r => if 0 ≤ r.2 then true else b_enl B C (b_stp B c r.1 c.1 r)
/-- e is at least 0 -/
def b_ent (B : a_B) (C : List b_T) (e : b_T) : Bool := match b_iv B e with
  | some p => if 0 ≤ p.1 then true else b_enl B (C ++ C) (e, p.1)
  | none => false
def b_low (v : List Int) (x : Int) (r : b_T × Int) : Prop := ∃ z, b_is v r.1 z ∧ r.2 ≤ z ∧ z ≤ x
theorem b_stp_ok {v : List Int} {B : a_B} (hB : g_B v B) {c e : b_T} {y x : Int} (hc : b_is v c y) (hy : 0 ≤ y) (he : b_is v e x) {w : Int} (hw : x ≤ w) : ∀ {l : List (Nat × Int)} {r : b_T × Int}, b_low v w r → b_low v w (b_stp B c e l r)
  | [], r, h => h
  | q :: l, r, h => by
    unfold b_stp
    simp only
    split
    · rename_i hk
      split
      · rename_i p hp
        split
        · refine b_stp_ok hB hc hy he hw ?_
          have h1 := b_is_ad (k := -(b_cf e.1 q.1 / q.2)) he hc
          refine ⟨_, h1, (b_iv_ok hB hp h1).1, ?_⟩
          have := Int.mul_nonneg (Int.le_of_lt hk.1) hy
          rw [Int.neg_mul]
          omega
        · exact b_stp_ok hB hc hy he hw h
      · exact b_stp_ok hB hc hy he hw h
    · exact b_stp_ok hB hc hy he hw h
theorem b_enl_ok {v : List Int} {B : a_B} (hB : g_B v B) {w : Int} : ∀ {C : List b_T} {r : b_T × Int}, bg_C v C → b_low v w r → b_enl B C r = true → 0 ≤ w
  | [], r, _, h, he => by
    obtain ⟨z, h1, h2, h3⟩ := h
    simp only [b_enl, decide_eq_true_eq] at he
    omega
  | c :: C, r, hC, h, he => by
    unfold b_enl at he
    split at he
    · obtain ⟨z, h1, h2, h3⟩ := h
      omega
    · obtain ⟨y, hy1, hy2⟩ := hC c List.mem_cons_self
      obtain ⟨z, h1, h2, h3⟩ := id h
      exact b_enl_ok hB (fun d hd => hC d (List.mem_cons_of_mem _ hd)) (b_stp_ok hB hy1 hy2 h1 h3 h) he
theorem b_ent_ok {v : List Int} {B : a_B} {C : List b_T} (hB : g_B v B) (hC : bg_C v C) {e : b_T} {z : Int} (h : b_ent B C e = true) (hz : b_is v e z) : 0 ≤ z := by
  unfold b_ent at h
  split at h
  · rename_i p hp
    have hi := b_iv_ok hB hp hz
    split at h
    · omega
    · refine b_enl_ok hB (C := C ++ C) (r := (e, p.1)) (w := z) ?_ ⟨z, hz, hi.1, Int.le_refl _⟩ h
      intro c hc
      rcases List.mem_append.mp hc with hc | hc <;> exact hC c hc
  · cases h
/-- bounds narrowed by a sum that is at least 0; hi: its greatest value by the bounds -/
def b_rfs (B0 : a_B) (hi : Int) : List (Nat × Int) → a_B → Option a_B
  | [], B => some B
  | q :: l, B => match a_bd B0 q.1 with
    | none => b_rfs B0 hi l B
    | some r => if 0 < q.2 then
        (let a := a_mx r.1 (-((hi - q.2 * r.2) / q.2))
        if a ≤ r.2 then b_rfs B0 hi l ((q.1, a, r.2) :: B) else none)
      else if q.2 < 0 then
        (let b := a_mn r.2 ((hi - q.2 * r.1) / (-q.2))
        if r.1 ≤ b then b_rfs B0 hi l ((q.1, r.1, b) :: B) else none)
      else b_rfs B0 hi l B
/-- t is at least 0: bounds and what is known; none: it can't be -/
def b_asm (B : a_B) (C : List b_T) (t : b_T) : Option (a_B × List b_T) := match b_iv B t with
  | none => some (B, C)
  | some p => if p.2 < 0 then none else if 0 ≤ p.1 then some (B, C) else
      match t.1 with
      | [] => some (B, C)
      | [_] => (match b_rfs B p.2 t.1 B with | some B1 => some (B1, C) | none => none)
      | _ => if b_ent B C (b_ad (b_c (-1)) (-1) t) = true then none else (match b_rfs B p.2 t.1 B with | some B1 => some (B1, t :: C) | none => none)
theorem b_rest {v : List Int} {B : a_B} (hB : g_B v B) : ∀ {l : List (Nat × Int)} {p : Int × Int} {s : Int}, b_ivl B l = some p → b_vs v l = some s → ∀ q ∈ l, ∃ w r, v[q.1]? = some w ∧ a_bd B q.1 = some r ∧ r.1 ≤ w ∧ w ≤ r.2 ∧ s - q.2 * w ≤ p.2 - (if 0 ≤ q.2 then q.2 * r.2 else q.2 * r.1)
  | [], p, s, h, hs, q, hq => by cases hq
  | q0 :: l, p, s, h, hs, q, hq => by
    obtain ⟨w, r, h1, h2, rfl⟩ := b_vs_cons.mp hs
    unfold b_ivl at h
    split at h
    rotate_left
    · cases h
    rename_i r1 s1 e1 e2
    obtain ⟨w2, e3, e4, e5⟩ := g_bd hB e1
    rw [h1] at e3
    cases e3
    have hi := b_ivl_ok hB e2 h2
    rcases List.mem_cons.mp hq with rfl | hq
    · refine ⟨w, r1, h1, e1, e4, e5, ?_⟩
      split at h
      · rename_i hk
        cases h
        rw [if_pos hk]
        simp only
        omega
      · rename_i hk
        cases h
        rw [if_neg hk]
        simp only
        omega
    · obtain ⟨u, r2, a1, a2, a3, a4, a5⟩ := b_rest hB e2 h2 q hq
      refine ⟨u, r2, a1, a2, a3, a4, ?_⟩
      have b5 : q0.2 * w ≤ (if 0 ≤ q0.2 then q0.2 * r1.2 else q0.2 * r1.1) := by
        split
        · rename_i hk; exact b_mul_le hk e5
        · rename_i hk; exact b_mul_ge hk e4
      split at h
      · rename_i hk
        cases h
        rw [if_pos hk] at b5
        simp only
        omega
      · rename_i hk
        cases h
        rw [if_neg hk] at b5
        simp only
        omega
theorem b_rfs_ok {v : List Int} {B0 : a_B} {hi z : Int} (hz : 0 ≤ z) : ∀ {l : List (Nat × Int)} {B : a_B}, (∀ q ∈ l, ∃ w r, v[q.1]? = some w ∧ a_bd B0 q.1 = some r ∧ r.1 ≤ w ∧ w ≤ r.2 ∧ z - q.2 * w ≤ hi - (if 0 ≤ q.2 then q.2 * r.2 else q.2 * r.1)) → g_B v B → ∃ B1, b_rfs B0 hi l B = some B1 ∧ g_B v B1
  | [], B, _, hB => ⟨B, rfl, hB⟩
  | q :: l, B, hl, hB => by
    obtain ⟨w, r, a1, a2, a3, a4, a5⟩ := hl q List.mem_cons_self
    have hl2 : ∀ q ∈ l, _ := fun q hq => hl q (List.mem_cons_of_mem _ hq)
    unfold b_rfs
    rw [a2]
    simp only
    split
    · rename_i hk
      rw [if_pos (Int.le_of_lt hk)] at a5
      have h1 : -((hi - q.2 * r.2) / q.2) ≤ w := by
        have h2 : -w ≤ (hi - q.2 * r.2) / q.2 := by
          refine (Int.le_ediv_iff_mul_le hk).mpr ?_
          rw [Int.neg_mul, Int.mul_comm]
          omega
        omega
      have h3 : a_mx r.1 (-((hi - q.2 * r.2) / q.2)) ≤ w := a_mx_le a3 h1
      rw [if_pos (Int.le_trans h3 a4)]
      refine b_rfs_ok hz hl2 ?_
      intro x hx
      rcases List.mem_cons.mp hx with rfl | hx
      · exact ⟨w, a1, h3, a4⟩
      · exact hB x hx
    · split
      · rename_i hk1 hk
        rw [if_neg (by omega)] at a5
        have h1 : w ≤ (hi - q.2 * r.1) / (-q.2) := by
          refine (Int.le_ediv_iff_mul_le (by omega)).mpr ?_
          rw [Int.mul_neg, Int.mul_comm]
          omega
        have h3 : w ≤ a_mn r.2 ((hi - q.2 * r.1) / (-q.2)) := a_mn_ge a4 h1
        rw [if_pos (Int.le_trans a3 h3)]
        refine b_rfs_ok hz hl2 ?_
        intro x hx
        rcases List.mem_cons.mp hx with rfl | hx
        · exact ⟨w, a1, a3, h3⟩
        · exact hB x hx
      · exact b_rfs_ok hz hl2 hB
theorem b_asm_ok {v : List Int} {B : a_B} {C : List b_T} (hB : g_B v B) (hC : bg_C v C) {t : b_T} {z : Int} (hz : b_is v t z) (h0 : 0 ≤ z) : ∃ B1 C1, b_asm B C t = some (B1, C1) ∧ g_B v B1 ∧ bg_C v C1 := by
  unfold b_asm
  split
  · exact ⟨B, C, rfl, hB, hC⟩
  rename_i p hp
  have hi := b_iv_ok hB hp hz
  rw [if_neg (by omega)]
  split
  · exact ⟨B, C, rfl, hB, hC⟩
  have key : ∃ B1, b_rfs B p.2 t.1 B = some B1 ∧ g_B v B1 := by
    obtain ⟨s, h1, rfl⟩ := hz
    unfold b_iv at hp
    split at hp
    rotate_left
    · cases hp
    rename_i q hq
    cases hp
    refine b_rfs_ok (z := s + t.2) h0 ?_ hB
    intro x hx
    obtain ⟨w, r, a1, a2, a3, a4, a5⟩ := b_rest hB hq h1 x hx
    exact ⟨w, r, a1, a2, a3, a4, by simp only; omega⟩
  obtain ⟨B1, k1, k2⟩ := key
  split
  · exact ⟨B, C, rfl, hB, hC⟩
  · rename_i q hq
    rw [k1]
    exact ⟨B1, C, rfl, k2, hC⟩
  · split
    · rename_i he
      have h2 := b_ent_ok hB hC he (b_is_ad (k := -1) (b_is_c (-1)) hz)
      omega
    · rw [k1]
      refine ⟨B1, t :: C, rfl, k2, ?_⟩
      intro c hc
      rcases List.mem_cons.mp hc with rfl | hc
      · exact ⟨z, hz, h0⟩
      · exact hC c hc
def b_as2 (B : a_B) (C : List b_T) (t u : b_T) : Option (a_B × List b_T) := match b_asm B C t with
  | some (B1, C1) => b_asm B1 C1 u
  | none => none
def b_list {α : Type} (o : Option α) : List α := match o with
  | some x => [x]
  | none => []
/-- the cases of x c y -/
def b_cmp (B : a_B) (C : List b_T) (c : Jvm.ClassFile.Cond) (x y : b_T) : List (a_B × List b_T) :=
  let d := b_ad y (-1) x
  let n := b_ad x (-1) y
  match c with
  | .eq => b_list (b_as2 B C d n)
  | .ne => b_list (b_asm B C (d.1, d.2 - 1)) ++ b_list (b_asm B C (n.1, n.2 - 1))
  | .lt => b_list (b_asm B C (d.1, d.2 - 1))
  | .le => b_list (b_asm B C d)
  | .gt => b_list (b_asm B C (n.1, n.2 - 1))
  | .ge => b_list (b_asm B C n)
theorem b_is_m1 {v : List Int} {t : b_T} {z : Int} (h : b_is v t z) : b_is v (t.1, t.2 - 1) (z - 1) := by
  obtain ⟨s, h1, rfl⟩ := h
  exact ⟨s, h1, by show _ = s + (t.2 - 1); omega⟩
theorem b_list_mem {α : Type} {o : Option α} {x : α} (h : o = some x) : x ∈ b_list o := by
  subst h
  exact List.mem_singleton.mpr rfl
theorem b_cmp_ok {v : List Int} {B : a_B} {C : List b_T} (hB : g_B v B) (hC : bg_C v C) {c : Jvm.ClassFile.Cond} {x y : b_T} {a b : Int} (hx : b_is v x a) (hy : b_is v y b) (h : g_c c a b) : ∃ q ∈ b_cmp B C c x y, g_B v q.1 ∧ bg_C v q.2 := by
  have hd : b_is v (b_ad y (-1) x) (b - a) := by
    have := b_is_ad (k := -1) hy hx
    rw [show b + -1 * a = b - a by omega] at this
    exact this
  have hn : b_is v (b_ad x (-1) y) (a - b) := by
    have := b_is_ad (k := -1) hx hy
    rw [show a + -1 * b = a - b by omega] at this
    exact this
  unfold b_cmp
  cases c <;> simp only [g_c] at h <;> simp only
  · obtain ⟨B1, C1, e1, k1, k2⟩ := b_asm_ok hB hC hd (by omega)
    obtain ⟨B2, C2, e2, k3, k4⟩ := b_asm_ok k1 k2 hn (by omega)
    exact ⟨(B2, C2), b_list_mem (by unfold b_as2; rw [e1]; exact e2), k3, k4⟩
  · rcases Int.lt_or_gt_of_ne h with h | h
    · obtain ⟨B1, C1, e1, k1, k2⟩ := b_asm_ok hB hC (b_is_m1 hd) (by omega)
      exact ⟨(B1, C1), List.mem_append_left _ (b_list_mem e1), k1, k2⟩
    · obtain ⟨B1, C1, e1, k1, k2⟩ := b_asm_ok hB hC (b_is_m1 hn) (by omega)
      exact ⟨(B1, C1), List.mem_append_right _ (b_list_mem e1), k1, k2⟩
  · obtain ⟨B1, C1, e1, k1, k2⟩ := b_asm_ok hB hC (b_is_m1 hd) (by omega)
    exact ⟨(B1, C1), b_list_mem e1, k1, k2⟩
  · obtain ⟨B1, C1, e1, k1, k2⟩ := b_asm_ok hB hC hn (by omega)
    exact ⟨(B1, C1), b_list_mem e1, k1, k2⟩
  · obtain ⟨B1, C1, e1, k1, k2⟩ := b_asm_ok hB hC (b_is_m1 hn) (by omega)
    exact ⟨(B1, C1), b_list_mem e1, k1, k2⟩
  · obtain ⟨B1, C1, e1, k1, k2⟩ := b_asm_ok hB hC hd (by omega)
    exact ⟨(B1, C1), b_list_mem e1, k1, k2⟩

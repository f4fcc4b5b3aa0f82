/-! THE CHECKER'S PURE STEPS -/
abbrev b_P : Type := Nat × a_B × List b_T × Nat × b_L × List b_V
def bg_n (v : List Int) (x : b_N) (y : Value) : Prop := match x.1 with
  | false => ∃ z : Int32, y = .int z ∧ b_is v x.2 z.toInt
  | true => ∃ z : Int64, y = .long z ∧ b_is v x.2 z.toInt
def bg_v (v : List Int) (x : b_V) (y : Value) : Prop := match x with
  | .inl n => bg_n v n y
  | .inr (.inl k) => y = .ref k
  | .inr (.inr k) => y = .retAddr k
def b_get (l : b_L) (k : Nat) : Option b_V := match l with
  | [] => none
  | q :: l => match Nat.beq q.1 k with
    | true => some q.2
    | false => b_get l k
def b_cat (v : b_V) : Nat := match v with
  | .inl (true, _) => 2
  | _ => 1
def b_del (l : b_L) (i : Nat) : b_L := l.filter (fun q => !(Nat.beq q.1 i))
/-- a two-word value below is gone too -/
def b_lw (l : b_L) (i : Nat) : b_L := match i with
  | 0 => l
  | i + 1 => match b_get l i with
    | some x => (match Nat.beq (b_cat x) 2 with | true => b_del l i | false => l)
    | none => l
def b_s1 (l : b_L) (i : Nat) (v : b_V) : b_L := (i, v) :: b_lw (b_del l i) i
def b_s2 (l : b_L) (i : Nat) (v : b_V) : b_L := (i, v) :: b_lw (b_del (b_del l i) (i + 1)) i
abbrev bg_s (v : List Int) (sa : List b_V) (st : List Value) : Prop := g_2 (bg_v v) sa st
def bg_L (v : List Int) (la : b_L) (l : q_L) : Prop := ∀ k x, b_get la k = some x → ∃ y, q_get l k = some y ∧ bg_v v x y
theorem bg_n_ext {v t : List Int} {x : b_N} {y : Value} (h : bg_n v x y) : bg_n (v ++ t) x y := by
  obtain ⟨lg, e⟩ := x
  cases lg with
  | false =>
    obtain ⟨z, h1, h2⟩ := h
    exact ⟨z, h1, b_is_ext h2⟩
  | true =>
    obtain ⟨z, h1, h2⟩ := h
    exact ⟨z, h1, b_is_ext h2⟩
theorem bg_v_ext {v t : List Int} {x : b_V} {y : Value} (h : bg_v v x y) : bg_v (v ++ t) x y := by
  match x, h with
  | .inl n, h => exact bg_n_ext h
  | .inr (.inl k), h => exact h
  | .inr (.inr k), h => exact h
theorem bg_s_ext {v t : List Int} {sa : List b_V} {st : List Value} (h : bg_s v sa st) : bg_s (v ++ t) sa st := g_2_mono (fun _ _ => bg_v_ext) h
theorem bg_L_ext {v t : List Int} {la : b_L} {l : q_L} (h : bg_L v la l) : bg_L (v ++ t) la l := fun k x hx => by
  obtain ⟨y, h1, h2⟩ := h k x hx
  exact ⟨y, h1, bg_v_ext h2⟩
theorem bg_cat {v : List Int} {x : b_V} {y : Value} (h : bg_v v x y) : b_cat x = y.category := by
  match x, h with
  | .inl (false, e), h =>
    obtain ⟨z, rfl, -⟩ := h
    rfl
  | .inl (true, e), h =>
    obtain ⟨z, rfl, -⟩ := h
    rfl
  | .inr (.inl k), h =>
    have h : y = .ref k := h
    subst h
    rfl
  | .inr (.inr k), h =>
    have h : y = .retAddr k := h
    subst h
    rfl
theorem q_get_filter {P : Nat × Value → Bool} : ∀ {l : q_L} {k : Nat} {y : Value}, q_get l k = some y → P (k, y) = true → q_get (l.filter P) k = some y
  | [], k, y, h, _ => by simp [q_get] at h
  | q :: l, k, y, h, hP => by
    unfold q_get at h
    rw [List.filter_cons]
    by_cases hk : q.1 = k
    · rw [if_pos hk] at h
      cases h
      subst hk
      rw [if_pos hP]
      unfold q_get
      rw [if_pos rfl]
    · rw [if_neg hk] at h
      have ih := q_get_filter h hP
      split
      · unfold q_get
        rw [if_neg hk]
        exact ih
      · exact ih
theorem b_get_del : ∀ {l : b_L} {i k : Nat} {x : b_V}, b_get (b_del l i) k = some x → b_get l k = some x ∧ k ≠ i
  | [], i, k, x, h => by simp [b_get, b_del] at h
  | q :: l, i, k, x, h => by
    unfold b_del at h
    rw [List.filter_cons] at h
    split at h
    · rename_i hq
      unfold b_get at h ⊢
      split at h
      · rename_i hk
        have hk := Nat.eq_of_beq_eq_true hk
        refine ⟨h, fun e => ?_⟩
        rw [hk, e, Nat.beq_refl] at hq
        cases hq
      · exact b_get_del h
    · rename_i hq
      have ih := b_get_del (l := l) h
      refine ⟨?_, ih.2⟩
      unfold b_get
      split
      · rename_i hk
        have hk := Nat.eq_of_beq_eq_true hk
        exfalso
        apply hq
        simp only [Bool.not_eq_true', Bool.not_eq_eq_eq_not]
        rw [hk]
        cases hb : Nat.beq k i with
        | false => rfl
        | true => exact absurd (Nat.eq_of_beq_eq_true hb) ih.2
      · exact ih.1
theorem b_get_lw {l : b_L} {i k : Nat} {x : b_V} (h : b_get (b_lw l i) k = some x) : b_get l k = some x ∧ ¬ (k + 1 = i ∧ b_cat x = 2) := by
  unfold b_lw at h
  split at h
  · exact ⟨h, by omega⟩
  · split at h
    · rename_i y hy
      split at h
      · obtain ⟨h1, h2⟩ := b_get_del h
        exact ⟨h1, by omega⟩
      · rename_i hc
        refine ⟨h, ?_⟩
        rintro ⟨e1, e2⟩
        have e3 : k = _ := Nat.succ.inj e1
        rw [← e3, h] at hy
        cases hy
        rw [e2] at hc
        cases hc
    · rename_i hy
      refine ⟨h, ?_⟩
      rintro ⟨e1, e2⟩
      have e3 : k = _ := Nat.succ.inj e1
      rw [← e3, h] at hy
      cases hy
theorem bg_s1 {v : List Int} {la : b_L} {l : q_L} (h : bg_L v la l) {i : Nat} {x : b_V} {y : Value} (hx : bg_v v x y) : bg_L v (b_s1 la i x) (q_s1 l i y) := by
  intro k z hz
  unfold b_s1 b_get at hz
  unfold q_s1 q_get
  split at hz
  · rename_i hk
    have hk := Nat.eq_of_beq_eq_true hk
    cases hz
    rw [if_pos hk]
    exact ⟨y, rfl, hx⟩
  · rename_i hk
    obtain ⟨h1, h2⟩ := b_get_lw hz
    obtain ⟨h3, h4⟩ := b_get_del h1
    obtain ⟨w, h5, h6⟩ := h k z h3
    rw [if_neg (fun e => h4 e.symm)]
    refine ⟨w, q_get_filter h5 ?_, h6⟩
    rw [bg_cat h6] at h2
    simp only [Bool.and_eq_true, Bool.not_eq_true', beq_eq_false_iff_ne, ne_eq, Bool.and_eq_false_iff]
    omega
theorem bg_s2 {v : List Int} {la : b_L} {l : q_L} (h : bg_L v la l) {i : Nat} {x : b_V} {y : Value} (hx : bg_v v x y) : bg_L v (b_s2 la i x) (q_s2 l i y) := by
  intro k z hz
  unfold b_s2 b_get at hz
  unfold q_s2 q_get
  split at hz
  · rename_i hk
    have hk := Nat.eq_of_beq_eq_true hk
    cases hz
    rw [if_pos hk]
    exact ⟨y, rfl, hx⟩
  · rename_i hk
    obtain ⟨h1, h2⟩ := b_get_lw hz
    obtain ⟨h3, h4⟩ := b_get_del h1
    obtain ⟨h31, h41⟩ := b_get_del h3
    obtain ⟨w, h5, h6⟩ := h k z h31
    rw [if_neg (fun e => h41 e.symm)]
    refine ⟨w, q_get_filter h5 ?_, h6⟩
    rw [bg_cat h6] at h2
    simp only [Bool.and_eq_true, Bool.not_eq_true', beq_eq_false_iff_ne, ne_eq, Bool.and_eq_false_iff]
    omega
def b_nm (z : b_R) (pc : Nat) (l : b_L) (r : List b_V) : Option (List b_P) := some [(z.1, z.2.1, z.2.2.1, pc, l, .inl z.2.2.2 :: r)]
def b_cs (k : Nat) (qs : List (a_B × List b_T)) (pc : Nat) (l : b_L) (st : List b_V) : List b_P := qs.map (fun q => (k, q.1, q.2, pc, l, st))
def b_tos (k : Nat) (qs : List (a_B × List b_T)) (pc : Nat) (off : Int) (l : b_L) (st : List b_V) : Option (List b_P) := if 0 ≤ (pc : Int) + off then some (b_cs k qs ((pc : Int) + off).toNat l st) else none
def b_br (k : Nat) (B : a_B) (C : List b_T) (pc len : Nat) (off : Int) (c : Jvm.ClassFile.Cond) (x y : b_T) (l : b_L) (r : List b_V) : Option (List b_P) :=
  if 0 ≤ (pc : Int) + off then some (b_cs k (b_cmp B C c x y) ((pc : Int) + off).toNat l r ++ b_cs k (b_cmp B C (a_opp c) x y) (pc + len) l r) else none
def b_cat2 (x y : Option (List b_P)) : Option (List b_P) := match x, y with
  | some a, some b => some (a ++ b)
  | _, _ => none
def b_tab (k : Nat) (B : a_B) (C : List b_T) (pc : Nat) (x : b_T) (l : b_L) (r : List b_V) : Int → List Int → Option (List b_P)
  | _, [] => some []
  | j, off :: offs => b_cat2 (b_tos k (b_cmp B C .eq x (b_c j)) pc off l r) (b_tab k B C pc x l r (j + 1) offs)
def b_lkp (k : Nat) (pc : Nat) (x : b_T) (l : b_L) (r : List b_V) (d : Int) : List (a_B × List b_T) → List (Int × Int) → Option (List b_P)
  | qs, [] => b_tos k qs pc d l r
  | qs, p :: ps => b_cat2 (b_tos k (qs.flatMap (fun q => b_cmp q.1 q.2 .eq x (b_c p.1))) pc p.2 l r) (b_lkp k pc x l r d (qs.flatMap (fun q => b_cmp q.1 q.2 .ne x (b_c p.1))) ps)
/-- not 0, by its bounds or by what is known -/
def b_nz (B : a_B) (C : List b_T) (y : b_T) : Bool := b_ent B C (y.1, y.2 - 1) || b_ent B C (b_ad (b_c (-1)) (-1) y)
def b_zero (B : a_B) (x : b_T) : Bool := match b_iv B x with
  | some p => decide (p.1 = 0 ∧ p.2 = 0)
  | none => false
/-- a bitwise or; with 0 it is the other -/
def b_or (k : Nat) (B : a_B) (C : List b_T) (x y : b_T) : b_R := match b_zero B y with
  | true => (k, B, C, (false, x))
  | false => match b_zero B x with
    | true => (k, B, C, (false, y))
    | false => b_by k B C false b_orf x y
def b_within (B : a_B) (x : b_T) (lo hi : Int) : Bool := match b_iv B x with
  | some p => decide (lo ≤ p.1 ∧ p.2 ≤ hi)
  | none => false
def b_pure (k : Nat) (B : a_B) (C : List b_T) (nL pc len : Nat) (i : Instr) (l : b_L) (st : List b_V) : Option (List b_P) := match i with
  | .iconst n => some [(k, B, C, pc + len, l, .inl (false, b_c (Int32.ofInt n).toInt) :: st)]
  | .goto_w n => some [(k, B, C, pc + len, l, .inl (true, b_c (Int64.ofInt n).toInt) :: st)]
  | .iload j => (match b_get l j with | some (.inl (false, e)) => some [(k, B, C, pc + len, l, .inl (false, e) :: st)] | _ => none)
  | .lload j => (match b_get l j with | some (.inl (true, e)) => some [(k, B, C, pc + len, l, .inl (true, e) :: st)] | _ => none)
  | .aload j => (match b_get l j with | some (.inr a) => some [(k, B, C, pc + len, l, .inr a :: st)] | _ => none)
  | .istore j => (match st with | .inl (false, e) :: r => if j < nL then some [(k, B, C, pc + len, b_s1 l j (.inl (false, e)), r)] else none | _ => none)
  | .astore j => (match st with | .inr (.inl a) :: r => if j < nL then some [(k, B, C, pc + len, b_s1 l j (.inr (.inl a)), r)] else none | _ => none)
  | .lstore j => (match st with | .inl (true, e) :: r => if j + 1 < nL then some [(k, B, C, pc + len, b_s2 l j (.inl (true, e)), r)] else none | _ => none)
  | .iinc j n => (match b_get l j with | some (.inl (false, e)) => if j < nL then (match b_num k B C false (b_ad e 1 (b_c (Int32.ofInt n).toInt)) with | (k1, B1, C1, z) => some [(k1, B1, C1, pc + len, b_s1 l j (.inl z), st)]) else none | _ => none)
  | .iadd => (match st with | .inl (false, y) :: .inl (false, x) :: r => b_nm (b_num k B C false (b_ad x 1 y)) (pc + len) l r | _ => none)
  | .isub => (match st with | .inl (false, y) :: .inl (false, x) :: r => b_nm (b_num k B C false (b_ad x (-1) y)) (pc + len) l r | _ => none)
  | .imul => (match st with | .inl (false, y) :: .inl (false, x) :: r => b_nm (b_mul k B C false x y) (pc + len) l r | _ => none)
  | .iand => (match st with | .inl (false, y) :: .inl (false, x) :: r => b_nm (b_and k B C x y) (pc + len) l r | _ => none)
  | .ior => (match st with | .inl (false, y) :: .inl (false, x) :: r => b_nm (b_or k B C x y) (pc + len) l r | _ => none)
  | .ixor => (match st with | .inl (false, y) :: .inl (false, x) :: r => b_nm (b_xor k B C x y) (pc + len) l r | _ => none)
  | .ishl => (match st with | .inl (false, y) :: .inl (false, x) :: r => b_nm (b_by k B C false b_shlf x y) (pc + len) l r | _ => none)
  | .ishr => (match st with | .inl (false, y) :: .inl (false, x) :: r => b_nm (b_by k B C false b_shrf x y) (pc + len) l r | _ => none)
  | .iushr => (match st with | .inl (false, y) :: .inl (false, x) :: r => b_nm (b_top k B C false) (pc + len) l r | _ => none)
  | .ladd => (match st with | .inl (true, y) :: .inl (true, x) :: r => b_nm (b_num k B C true (b_ad x 1 y)) (pc + len) l r | _ => none)
  | .lsub => (match st with | .inl (true, y) :: .inl (true, x) :: r => b_nm (b_num k B C true (b_ad x (-1) y)) (pc + len) l r | _ => none)
  | .lmul => (match st with | .inl (true, y) :: .inl (true, x) :: r => b_nm (b_mul k B C true x y) (pc + len) l r | _ => none)
  | .land => (match st with | .inl (true, y) :: .inl (true, x) :: r => b_nm (b_top k B C true) (pc + len) l r | _ => none)
  | .lor => (match st with | .inl (true, y) :: .inl (true, x) :: r => b_nm (b_top k B C true) (pc + len) l r | _ => none)
  | .idiv => (match st with | .inl (false, y) :: .inl (false, x) :: r => if b_nz B C y = true then b_nm (b_by k B C false b_divf x y) (pc + len) l r else none | _ => none)
  | .irem => (match st with | .inl (false, y) :: .inl (false, x) :: r => if b_nz B C y = true then b_nm (b_top k B C false) (pc + len) l r else none | _ => none)
  | .ldiv => (match st with | .inl (true, y) :: .inl (true, x) :: r => if b_nz B C y = true then b_nm (b_top k B C true) (pc + len) l r else none | _ => none)
  | .lrem => (match st with | .inl (true, y) :: .inl (true, x) :: r => if b_nz B C y = true then b_nm (b_lrem k B C x y) (pc + len) l r else none | _ => none)
  | .lshl => (match st with | .inl (false, _) :: .inl (true, _) :: r => b_nm (b_top k B C true) (pc + len) l r | _ => none)
  | .lshr => (match st with | .inl (false, _) :: .inl (true, _) :: r => b_nm (b_top k B C true) (pc + len) l r | _ => none)
  | .i2l => (match st with | .inl (false, x) :: r => some [(k, B, C, pc + len, l, .inl (true, x) :: r)] | _ => none)
  | .l2i => (match st with | .inl (true, x) :: r => if b_within B x (-2147483648) 2147483647 = true then some [(k, B, C, pc + len, l, .inl (false, x) :: r)] else b_nm (b_top k B C false) (pc + len) l r | _ => none)
  | .i2b => (match st with | .inl (false, x) :: r => if b_within B x (-128) 127 = true then some [(k, B, C, pc + len, l, .inl (false, x) :: r)] else b_nm (b_new k B C false (-128) 127) (pc + len) l r | _ => none)
  | .i2s => (match st with | .inl (false, x) :: r => if b_within B x (-32768) 32767 = true then some [(k, B, C, pc + len, l, .inl (false, x) :: r)] else b_nm (b_new k B C false (-32768) 32767) (pc + len) l r | _ => none)
  | .ineg => (match st with | .inl (false, x) :: r => b_nm (b_num k B C false (b_sc (-1) x)) (pc + len) l r | _ => none)
  | .lcmp => (match st with | .inl (true, y) :: .inl (true, x) :: r => some (b_cs k (b_cmp B C .lt x y) (pc + len) l (.inl (false, b_c (-1)) :: r) ++ (b_cs k (b_cmp B C .eq x y) (pc + len) l (.inl (false, b_c 0) :: r) ++ b_cs k (b_cmp B C .gt x y) (pc + len) l (.inl (false, b_c 1) :: r))) | _ => none)
  | .dup => (match st with | v :: r => if b_cat v = 1 then some [(k, B, C, pc + len, l, v :: v :: r)] else none | _ => none)
  | .pop => (match st with | v :: r => if b_cat v = 1 then some [(k, B, C, pc + len, l, r)] else none | _ => none)
  | .dup2 => (match st with | a :: r => if b_cat a = 2 then some [(k, B, C, pc + len, l, a :: a :: r)] else (match r with | b :: r => if b_cat a = 1 ∧ b_cat b = 1 then some [(k, B, C, pc + len, l, a :: b :: a :: b :: r)] else none | _ => none) | _ => none)
  | .pop2 => (match st with | a :: r => if b_cat a = 2 then some [(k, B, C, pc + len, l, r)] else none | _ => none)
  | .ifCond c off => (match st with | .inl (false, x) :: r => b_br k B C pc len off c x (b_c 0) l r | _ => none)
  | .if_icmp c off => (match st with | .inl (false, y) :: .inl (false, x) :: r => b_br k B C pc len off c x y l r | _ => none)
  | .goto off => b_tos k [(B, C)] pc off l st
  | .tableswitch d lo hi offs => (match st with | .inl (false, x) :: r => if (offs.size : Int) = hi - lo + 1 then b_cat2 (b_tab k B C pc x l r lo offs.toList) (b_cat2 (b_tos k (b_cmp B C .lt x (b_c lo)) pc d l r) (b_tos k (b_cmp B C .gt x (b_c hi)) pc d l r)) else none | _ => none)
  | .lookupswitch d ps => (match st with | .inl (false, x) :: r => if (ps.toList.zip (ps.toList.drop 1)).all (fun (a, next) => a.1 < next.1) = true then b_lkp k pc x l r d [(B, C)] ps.toList else none | _ => none)
  | _ => none
def bg_PR (v : List Int) (ps : List b_P) (res : Option (Nat × q_L × List Value)) : Prop := ∃ p ∈ ps, ∃ (t : List Int) (l1 : q_L) (st1 : List Value), res = some (p.2.2.2.1, l1, st1) ∧ (v ++ t).length = p.1 ∧ g_B (v ++ t) p.2.1 ∧ bg_C (v ++ t) p.2.2.1 ∧ bg_L (v ++ t) p.2.2.2.2.1 l1 ∧ bg_s (v ++ t) p.2.2.2.2.2 st1
theorem bg_P0 {v : List Int} {k : Nat} {B : a_B} {C : List b_T} {pc : Nat} {la : b_L} {sa : List b_V} {ps : List b_P} {l : q_L} {st : List Value} {res : Option (Nat × q_L × List Value)} (hm : (k, B, C, pc, la, sa) ∈ ps) (hr : res = some (pc, l, st)) (hk : v.length = k) (hB : g_B v B) (hC : bg_C v C) (hl : bg_L v la l) (hs : bg_s v sa st) : bg_PR v ps res :=
  ⟨_, hm, [], l, st, hr, by simpa using hk, by simpa using hB, by simpa using hC, by simpa using hl, by simpa using hs⟩
theorem bg_P1 {v : List Int} {z : b_R} {lg : Bool} {w : Int} (hR : bg_R v z lg w) {y : Value} (hy : match lg with | false => ∃ c : Int32, y = .int c ∧ c.toInt = w | true => ∃ c : Int64, y = .long c ∧ c.toInt = w) {pc : Nat} {la : b_L} {sa : List b_V} {l : q_L} {st : List Value} {res : Option (Nat × q_L × List Value)} (hr : res = some (pc, l, y :: st)) (hl : bg_L v la l) (hs : bg_s v sa st) : bg_PR v [(z.1, z.2.1, z.2.2.1, pc, la, .inl z.2.2.2 :: sa)] res := by
  obtain ⟨t, h1, h2, h3, h4, h5⟩ := hR
  refine ⟨_, List.mem_singleton.mpr rfl, t, l, _, hr, h1, h2, h3, bg_L_ext hl, ?_, bg_s_ext hs⟩
  obtain ⟨k1, B1, C1, lg1, e⟩ := z
  simp only at h4 h5
  subst h4
  cases lg1 with
  | false =>
    obtain ⟨c1, rfl, rfl⟩ := hy
    exact ⟨c1, rfl, h5⟩
  | true =>
    obtain ⟨c1, rfl, rfl⟩ := hy
    exact ⟨c1, rfl, h5⟩
theorem bg_PRl {v : List Int} {ps qs : List b_P} {res : Option (Nat × q_L × List Value)} (h : bg_PR v ps res) : bg_PR v (ps ++ qs) res := by
  obtain ⟨p, hp, h⟩ := h
  exact ⟨p, List.mem_append_left _ hp, h⟩
theorem bg_PRr {v : List Int} {ps qs : List b_P} {res : Option (Nat × q_L × List Value)} (h : bg_PR v qs res) : bg_PR v (ps ++ qs) res := by
  obtain ⟨p, hp, h⟩ := h
  exact ⟨p, List.mem_append_right _ hp, h⟩
theorem bg_cat2 {x y : Option (List b_P)} {ps : List b_P} (h : b_cat2 x y = some ps) : ∃ a b, x = some a ∧ y = some b ∧ ps = a ++ b := by
  unfold b_cat2 at h
  split at h
  · cases h
    exact ⟨_, _, rfl, rfl, rfl⟩
  · cases h
theorem bg_cs {v : List Int} {k : Nat} {qs : List (a_B × List b_T)} {q : a_B × List b_T} {pc : Nat} {la : b_L} {sa : List b_V} {l : q_L} {st : List Value} {res : Option (Nat × q_L × List Value)} (hq : q ∈ qs) (hr : res = some (pc, l, st)) (hk : v.length = k) (hB : g_B v q.1) (hC : bg_C v q.2) (hl : bg_L v la l) (hs : bg_s v sa st) : bg_PR v (b_cs k qs pc la sa) res :=
  bg_P0 (List.mem_map.mpr ⟨q, hq, rfl⟩) hr hk hB hC hl hs
theorem bg_tos {v : List Int} {k : Nat} {qs : List (a_B × List b_T)} {q : a_B × List b_T} {pc : Nat} {off : Int} {la : b_L} {sa : List b_V} {ps : List b_P} {l : q_L} {st : List Value} (h : b_tos k qs pc off la sa = some ps) (hq : q ∈ qs) (hk : v.length = k) (hB : g_B v q.1) (hC : bg_C v q.2) (hl : bg_L v la l) (hs : bg_s v sa st) : bg_PR v ps (q_to pc off l st) := by
  unfold b_tos at h
  unfold q_to
  split at h
  · rename_i hc
    cases h
    exact bg_cs hq (by rw [if_pos hc]) hk hB hC hl hs
  · cases h
theorem bg_br {v : List Int} {k : Nat} {B : a_B} {C : List b_T} {pc len : Nat} {off : Int} {c : Jvm.ClassFile.Cond} {x y : b_T} {z w : Int32} {la : b_L} {sa : List b_V} {ps : List b_P} {l : q_L} {st : List Value} (h : b_br k B C pc len off c x y la sa = some ps) (hk : v.length = k) (hB : g_B v B) (hC : bg_C v C) (hx : b_is v x z.toInt) (hy : b_is v y w.toInt) (hl : bg_L v la l) (hs : bg_s v sa st) : bg_PR v ps (q_br pc len off (q_c c z w) l st) := by
  unfold b_br at h
  split at h
  rotate_left
  · cases h
  rename_i hpc
  cases h
  unfold q_br
  rw [if_pos hpc]
  cases hq : q_c c z w with
  | true =>
    obtain ⟨q, a1, a2, a3⟩ := b_cmp_ok hB hC hx hy ((g_c32 c z w).mp hq)
    exact bg_PRl (bg_cs a1 rfl hk a2 a3 hl hs)
  | false =>
    obtain ⟨q, a1, a2, a3⟩ := b_cmp_ok (c := a_opp c) hB hC hx hy (g_c_opp (fun hc => by rw [(g_c32 c z w).mpr hc] at hq; cases hq))
    exact bg_PRr (bg_cs a1 rfl hk a2 a3 hl hs)
theorem bg_tab {v : List Int} {k : Nat} {B : a_B} {C : List b_T} {pc : Nat} {x : b_T} {z : Int32} {la : b_L} {sa : List b_V} {l : q_L} {st : List Value} (hk : v.length = k) (hB : g_B v B) (hC : bg_C v C) (hx : b_is v x z.toInt) (hl : bg_L v la l) (hs : bg_s v sa st) :
    ∀ (offs : List Int) (j : Int) (ps : List b_P), b_tab k B C pc x la sa j offs = some ps → ∀ (n : Nat) (off : Int), offs[n]? = some off → z.toInt = j + n → bg_PR v ps (q_to pc off l st)
  | [], j, ps, h, n, off, hn, hz => by simp at hn
  | o :: offs, j, ps, h, 0, off, hn, hz => by
    simp at hn
    subst hn
    unfold b_tab at h
    obtain ⟨p1, p2, e1, e2, rfl⟩ := bg_cat2 h
    obtain ⟨q, a1, a2, a3⟩ := b_cmp_ok (c := .eq) hB hC hx (b_is_c j) (by show z.toInt = j; omega)
    exact bg_PRl (bg_tos e1 a1 hk a2 a3 hl hs)
  | o :: offs, j, ps, h, n + 1, off, hn, hz => by
    simp at hn
    unfold b_tab at h
    obtain ⟨p1, p2, e1, e2, rfl⟩ := bg_cat2 h
    exact bg_PRr (bg_tab hk hB hC hx hl hs offs (j + 1) p2 e2 n off hn (by omega))
theorem bg_lkp {v : List Int} {k : Nat} {pc : Nat} {x : b_T} {z : Int32} {la : b_L} {sa : List b_V} {l : q_L} {st : List Value} {d : Int} (hk : v.length = k) (hx : b_is v x z.toInt) (hl : bg_L v la l) (hs : bg_s v sa st) :
    ∀ (ps : List (Int × Int)) (qs : List (a_B × List b_T)) (rs : List b_P), (∃ q ∈ qs, g_B v q.1 ∧ bg_C v q.2) → b_lkp k pc x la sa d qs ps = some rs → bg_PR v rs (q_to pc (Op.lookupswitch.offset ps d z.toInt) l st)
  | [], qs, rs, hq, h => by
    obtain ⟨q, a1, a2, a3⟩ := hq
    unfold b_lkp at h
    exact bg_tos h a1 hk a2 a3 hl hs
  | p :: ps, qs, rs, hq, h => by
    obtain ⟨q, a1, a2, a3⟩ := hq
    unfold b_lkp at h
    obtain ⟨p1, p2, e1, e2, rfl⟩ := bg_cat2 h
    obtain ⟨a, off⟩ := p
    rw [Op.lookupswitch.offset_cons]
    by_cases hz : z.toInt = a
    · rw [if_pos (by first | exact hz | exact hz.symm | simpa using hz | simpa using hz.symm)]
      obtain ⟨q1, c1, c2, c3⟩ := b_cmp_ok (c := .eq) a2 a3 hx (b_is_c a) hz
      exact bg_PRl (bg_tos e1 (List.mem_flatMap.mpr ⟨q, a1, c1⟩) hk c2 c3 hl hs)
    · rw [if_neg (by first | exact hz | exact fun q => hz q.symm | simpa using hz | simpa using fun q => hz q.symm)]
      obtain ⟨q1, c1, c2, c3⟩ := b_cmp_ok (c := .ne) a2 a3 hx (b_is_c a) hz
      exact bg_PRr (bg_lkp hk hx hl hs ps _ p2 ⟨q1, List.mem_flatMap.mpr ⟨q, a1, c1⟩, c2, c3⟩ e2)
theorem b_nz_ok {v : List Int} {B : a_B} {C : List b_T} (hB : g_B v B) (hC : bg_C v C) {y : b_T} {w : Int} (h : b_nz B C y = true) (hy : b_is v y w) : w ≠ 0 := by
  unfold b_nz at h
  rw [Bool.or_eq_true] at h
  rcases h with h | h
  · have := b_ent_ok hB hC h (b_is_m1 hy)
    omega
  · have := b_ent_ok hB hC h (b_is_ad (k := -1) (b_is_c (-1)) hy)
    omega
theorem b_within_ok {v : List Int} {B : a_B} (hB : g_B v B) {x : b_T} {lo hi z : Int} (h : b_within B x lo hi = true) (hx : b_is v x z) : lo ≤ z ∧ z ≤ hi := by
  unfold b_within at h
  split at h
  · rename_i p hp
    have := b_iv_ok hB hp hx
    simp only [decide_eq_true_eq] at h
    omega
  · cases h
theorem b_zero_ok {v : List Int} {B : a_B} (hB : g_B v B) {x : b_T} {z : Int32} (h : b_zero B x = true) (hx : b_is v x z.toInt) : z = 0 := by
  unfold b_zero at h
  split at h
  · rename_i p hp
    have := b_iv_ok hB hp hx
    simp only [decide_eq_true_eq] at h
    exact Int32.toInt_inj.mp (by rw [Int32.toInt_zero]; omega)
  · cases h
theorem b_or_ok {v : List Int} {k : Nat} {B : a_B} {C : List b_T} (hk : v.length = k) (hB : g_B v B) (hC : bg_C v C) {x y : b_T} {a b : Int32} (hx : b_is v x a.toInt) (hy : b_is v y b.toInt) : bg_R v (b_or k B C x y) false (a ||| b).toInt := by
  unfold b_or
  split
  · rename_i h
    have := b_zero_ok hB h hy
    subst this
    rw [Int32.or_zero]
    exact bg_R0 hk hB hC hx
  · split
    · rename_i h
      have := b_zero_ok hB h hx
      subst this
      rw [Int32.zero_or]
      exact bg_R0 hk hB hC hy
    · exact b_or32_ok hk hB hC hx hy
set_option maxHeartbeats 4000000 in
theorem bg_pure {v : List Int} {k : Nat} {B : a_B} {C : List b_T} {nL pc len : Nat} {i : Instr} {la : b_L} {sa : List b_V} {ps : List b_P} {l : q_L} {st : List Value} (h : b_pure k B C nL pc len i la sa = some ps) (hk : v.length = k) (hB : g_B v B) (hC : bg_C v C) (hl : bg_L v la l) (hs : bg_s v sa st) : bg_PR v ps (q_pure nL pc len i l st) := by
  unfold b_pure at h
  split at h
  · -- iconst
    cases h
    exact bg_P0 (List.mem_singleton.mpr rfl) rfl hk hB hC hl ⟨⟨_, rfl, b_is_c _⟩, hs⟩
  · -- a long
    cases h
    exact bg_P0 (List.mem_singleton.mpr rfl) rfl hk hB hC hl ⟨⟨_, rfl, b_is_c _⟩, hs⟩
  · -- iload
    split at h
    rotate_left
    · cases h
    rename_i hg
    cases h
    obtain ⟨y, h1, h2⟩ := hl _ _ hg
    obtain ⟨z, rfl, h3⟩ := h2
    exact bg_P0 (st := .int z :: st) (List.mem_singleton.mpr rfl) (by simp only [q_pure, h1]) hk hB hC hl ⟨⟨z, rfl, h3⟩, hs⟩
  · -- lload
    split at h
    rotate_left
    · cases h
    rename_i hg
    cases h
    obtain ⟨y, h1, h2⟩ := hl _ _ hg
    obtain ⟨z, rfl, h3⟩ := h2
    exact bg_P0 (st := .long z :: st) (List.mem_singleton.mpr rfl) (by simp only [q_pure, h1]) hk hB hC hl ⟨⟨z, rfl, h3⟩, hs⟩
  · -- aload
    split at h
    rotate_left
    · cases h
    rename_i a hg
    cases h
    obtain ⟨y, h1, h2⟩ := hl _ _ hg
    cases a with
    | inl a =>
      have h2 : y = .ref a := h2
      subst h2
      exact bg_P0 (st := .ref a :: st) (List.mem_singleton.mpr rfl) (by simp only [q_pure, h1]) hk hB hC hl ⟨rfl, hs⟩
    | inr a =>
      have h2 : y = .retAddr a := h2
      subst h2
      exact bg_P0 (st := .retAddr a :: st) (List.mem_singleton.mpr rfl) (by simp only [q_pure, h1]) hk hB hC hl ⟨rfl, hs⟩
  · -- istore
    split at h
    rotate_left
    · cases h
    split at h
    rotate_left
    · cases h
    rename_i hn
    cases h
    obtain ⟨y, ys, rfl, hy, hr⟩ := g_ca hs
    have hy0 := hy
    obtain ⟨z, rfl, h3⟩ := hy
    exact bg_P0 (l := q_s1 l _ (.int z)) (st := ys) (List.mem_singleton.mpr rfl) (by simp only [q_pure, if_pos hn]) hk hB hC (bg_s1 hl hy0) hr
  · -- astore
    split at h
    rotate_left
    · cases h
    split at h
    rotate_left
    · cases h
    rename_i hn
    cases h
    obtain ⟨y, ys, rfl, hy, hr⟩ := g_ca hs
    have hy0 := hy
    have hy : y = _ := hy
    subst hy
    exact bg_P0 (l := q_s1 l _ (.ref _)) (st := ys) (List.mem_singleton.mpr rfl) (by simp only [q_pure, if_pos hn]) hk hB hC (bg_s1 hl hy0) hr
  · -- lstore
    split at h
    rotate_left
    · cases h
    split at h
    rotate_left
    · cases h
    rename_i hn
    cases h
    obtain ⟨y, ys, rfl, hy, hr⟩ := g_ca hs
    have hy0 := hy
    obtain ⟨z, rfl, h3⟩ := hy
    exact bg_P0 (l := q_s2 l _ (.long z)) (st := ys) (List.mem_singleton.mpr rfl) (by simp only [q_pure, if_pos hn]) hk hB hC (bg_s2 hl hy0) hr
  · -- iinc
    rename_i jj nn
    split at h
    rotate_left
    · cases h
    rename_i e hg
    split at h
    rotate_left
    · cases h
    rename_i hn
    obtain ⟨y, h1, h2⟩ := hl _ _ hg
    obtain ⟨z, rfl, h3⟩ := h2
    have hR := b_add32_ok hk hB hC h3 (b_is_c (Int32.ofInt nn).toInt)
    split at h
    rename_i k1 B1 C1 zz hz
    cases h
    rw [hz] at hR
    obtain ⟨t, g1, g2, g3, g4, g5⟩ := hR
    refine ⟨_, List.mem_singleton.mpr rfl, t, q_s1 l jj (.int (z + Int32.ofInt nn)), st, by simp only [q_pure, h1, if_pos hn], g1, g2, g3, bg_s1 (bg_L_ext hl) ?_, bg_s_ext hs⟩
    obtain ⟨lg, ee⟩ := zz
    simp only at g4 g5
    subst g4
    exact ⟨_, rfl, g5⟩
  · -- iadd
    split at h
    rotate_left
    · cases h
    obtain ⟨y, ys, rfl, hy, hs1⟩ := g_ca hs
    replace hs := hs1
    obtain ⟨x, xs, rfl, hx, hs1⟩ := g_ca hs
    replace hs := hs1
    obtain ⟨w, rfl, hy⟩ := hy
    obtain ⟨z, rfl, hx⟩ := hx
    cases h
    exact bg_P1 (lg := false) (b_add32_ok hk hB hC hx hy) ⟨_, rfl, rfl⟩ rfl hl hs
  · -- isub
    split at h
    rotate_left
    · cases h
    obtain ⟨y, ys, rfl, hy, hs1⟩ := g_ca hs
    replace hs := hs1
    obtain ⟨x, xs, rfl, hx, hs1⟩ := g_ca hs
    replace hs := hs1
    obtain ⟨w, rfl, hy⟩ := hy
    obtain ⟨z, rfl, hx⟩ := hx
    cases h
    exact bg_P1 (lg := false) (b_sub32_ok hk hB hC hx hy) ⟨_, rfl, rfl⟩ rfl hl hs
  · -- imul
    split at h
    rotate_left
    · cases h
    obtain ⟨y, ys, rfl, hy, hs1⟩ := g_ca hs
    replace hs := hs1
    obtain ⟨x, xs, rfl, hx, hs1⟩ := g_ca hs
    replace hs := hs1
    obtain ⟨w, rfl, hy⟩ := hy
    obtain ⟨z, rfl, hx⟩ := hx
    cases h
    exact bg_P1 (lg := false) (b_mul32_ok hk hB hC hx hy) ⟨_, rfl, rfl⟩ rfl hl hs
  · -- iand
    split at h
    rotate_left
    · cases h
    obtain ⟨y, ys, rfl, hy, hs1⟩ := g_ca hs
    replace hs := hs1
    obtain ⟨x, xs, rfl, hx, hs1⟩ := g_ca hs
    replace hs := hs1
    obtain ⟨w, rfl, hy⟩ := hy
    obtain ⟨z, rfl, hx⟩ := hx
    cases h
    exact bg_P1 (lg := false) (b_and_ok hk hB hC hx hy) ⟨_, rfl, rfl⟩ rfl hl hs
  · -- ior
    split at h
    rotate_left
    · cases h
    obtain ⟨y, ys, rfl, hy, hs1⟩ := g_ca hs
    replace hs := hs1
    obtain ⟨x, xs, rfl, hx, hs1⟩ := g_ca hs
    replace hs := hs1
    obtain ⟨w, rfl, hy⟩ := hy
    obtain ⟨z, rfl, hx⟩ := hx
    cases h
    exact bg_P1 (lg := false) (b_or_ok hk hB hC hx hy) ⟨_, rfl, rfl⟩ rfl hl hs
  · -- ixor
    split at h
    rotate_left
    · cases h
    obtain ⟨y, ys, rfl, hy, hs1⟩ := g_ca hs
    replace hs := hs1
    obtain ⟨x, xs, rfl, hx, hs1⟩ := g_ca hs
    replace hs := hs1
    obtain ⟨w, rfl, hy⟩ := hy
    obtain ⟨z, rfl, hx⟩ := hx
    cases h
    exact bg_P1 (lg := false) (b_xor_ok hk hB hC hx hy) ⟨_, rfl, rfl⟩ rfl hl hs
  · -- ishl
    split at h
    rotate_left
    · cases h
    obtain ⟨y, ys, rfl, hy, hs1⟩ := g_ca hs
    replace hs := hs1
    obtain ⟨x, xs, rfl, hx, hs1⟩ := g_ca hs
    replace hs := hs1
    obtain ⟨w, rfl, hy⟩ := hy
    obtain ⟨z, rfl, hx⟩ := hx
    cases h
    exact bg_P1 (lg := false) (b_shl32_ok hk hB hC hx hy) ⟨_, rfl, rfl⟩ rfl hl hs
  · -- ishr
    split at h
    rotate_left
    · cases h
    obtain ⟨y, ys, rfl, hy, hs1⟩ := g_ca hs
    replace hs := hs1
    obtain ⟨x, xs, rfl, hx, hs1⟩ := g_ca hs
    replace hs := hs1
    obtain ⟨w, rfl, hy⟩ := hy
    obtain ⟨z, rfl, hx⟩ := hx
    cases h
    exact bg_P1 (lg := false) (b_shr32_ok hk hB hC hx hy) ⟨_, rfl, rfl⟩ rfl hl hs
  · -- iushr
    split at h
    rotate_left
    · cases h
    obtain ⟨y, ys, rfl, hy, hs1⟩ := g_ca hs
    replace hs := hs1
    obtain ⟨x, xs, rfl, hx, hs1⟩ := g_ca hs
    replace hs := hs1
    obtain ⟨w, rfl, hy⟩ := hy
    obtain ⟨z, rfl, hx⟩ := hx
    cases h
    exact bg_P1 (lg := false) (b_top_ok hk hB hC (g_in32 _)) ⟨_, rfl, rfl⟩ rfl hl hs
  · -- ladd
    split at h
    rotate_left
    · cases h
    obtain ⟨y, ys, rfl, hy, hs1⟩ := g_ca hs
    replace hs := hs1
    obtain ⟨x, xs, rfl, hx, hs1⟩ := g_ca hs
    replace hs := hs1
    obtain ⟨w, rfl, hy⟩ := hy
    obtain ⟨z, rfl, hx⟩ := hx
    cases h
    exact bg_P1 (lg := true) (b_add64_ok hk hB hC hx hy) ⟨_, rfl, rfl⟩ rfl hl hs
  · -- lsub
    split at h
    rotate_left
    · cases h
    obtain ⟨y, ys, rfl, hy, hs1⟩ := g_ca hs
    replace hs := hs1
    obtain ⟨x, xs, rfl, hx, hs1⟩ := g_ca hs
    replace hs := hs1
    obtain ⟨w, rfl, hy⟩ := hy
    obtain ⟨z, rfl, hx⟩ := hx
    cases h
    exact bg_P1 (lg := true) (b_sub64_ok hk hB hC hx hy) ⟨_, rfl, rfl⟩ rfl hl hs
  · -- lmul
    split at h
    rotate_left
    · cases h
    obtain ⟨y, ys, rfl, hy, hs1⟩ := g_ca hs
    replace hs := hs1
    obtain ⟨x, xs, rfl, hx, hs1⟩ := g_ca hs
    replace hs := hs1
    obtain ⟨w, rfl, hy⟩ := hy
    obtain ⟨z, rfl, hx⟩ := hx
    cases h
    exact bg_P1 (lg := true) (b_mul64_ok hk hB hC hx hy) ⟨_, rfl, rfl⟩ rfl hl hs
  · -- land
    split at h
    rotate_left
    · cases h
    obtain ⟨y, ys, rfl, hy, hs1⟩ := g_ca hs
    replace hs := hs1
    obtain ⟨x, xs, rfl, hx, hs1⟩ := g_ca hs
    replace hs := hs1
    obtain ⟨w, rfl, hy⟩ := hy
    obtain ⟨z, rfl, hx⟩ := hx
    cases h
    exact bg_P1 (lg := true) (b_top_ok hk hB hC (g_in64 _)) ⟨_, rfl, rfl⟩ rfl hl hs
  · -- lor
    split at h
    rotate_left
    · cases h
    obtain ⟨y, ys, rfl, hy, hs1⟩ := g_ca hs
    replace hs := hs1
    obtain ⟨x, xs, rfl, hx, hs1⟩ := g_ca hs
    replace hs := hs1
    obtain ⟨w, rfl, hy⟩ := hy
    obtain ⟨z, rfl, hx⟩ := hx
    cases h
    exact bg_P1 (lg := true) (b_top_ok hk hB hC (g_in64 _)) ⟨_, rfl, rfl⟩ rfl hl hs
  · -- idiv
    split at h
    rotate_left
    · cases h
    split at h
    rotate_left
    · cases h
    rename_i hnz
    obtain ⟨y, ys, rfl, hy, hs1⟩ := g_ca hs
    replace hs := hs1
    obtain ⟨x, xs, rfl, hx, hs1⟩ := g_ca hs
    replace hs := hs1
    obtain ⟨w, rfl, hy⟩ := hy
    obtain ⟨z, rfl, hx⟩ := hx
    have hw0 := b_nz_ok hB hC hnz hy
    have hw : ¬ w = 0 := fun e => hw0 (by rw [e]; rfl)
    cases h
    exact bg_P1 (lg := false) (b_div32_ok hk hB hC hx hy) ⟨_, rfl, rfl⟩ (by simp only [q_pure, if_neg hw]) hl hs
  · -- irem
    split at h
    rotate_left
    · cases h
    split at h
    rotate_left
    · cases h
    rename_i hnz
    obtain ⟨y, ys, rfl, hy, hs1⟩ := g_ca hs
    replace hs := hs1
    obtain ⟨x, xs, rfl, hx, hs1⟩ := g_ca hs
    replace hs := hs1
    obtain ⟨w, rfl, hy⟩ := hy
    obtain ⟨z, rfl, hx⟩ := hx
    have hw0 := b_nz_ok hB hC hnz hy
    have hw : ¬ w = 0 := fun e => hw0 (by rw [e]; rfl)
    cases h
    exact bg_P1 (lg := false) (b_top_ok hk hB hC (g_in32 (z - z / w * w))) ⟨_, rfl, rfl⟩ (by simp only [q_pure, if_neg hw]) hl hs
  · -- ldiv
    split at h
    rotate_left
    · cases h
    split at h
    rotate_left
    · cases h
    rename_i hnz
    obtain ⟨y, ys, rfl, hy, hs1⟩ := g_ca hs
    replace hs := hs1
    obtain ⟨x, xs, rfl, hx, hs1⟩ := g_ca hs
    replace hs := hs1
    obtain ⟨w, rfl, hy⟩ := hy
    obtain ⟨z, rfl, hx⟩ := hx
    have hw0 := b_nz_ok hB hC hnz hy
    have hw : ¬ w = 0 := fun e => hw0 (by rw [e]; rfl)
    cases h
    exact bg_P1 (lg := true) (b_top_ok hk hB hC (g_in64 (z / w))) ⟨_, rfl, rfl⟩ (by simp only [q_pure, if_neg hw]) hl hs
  · -- lrem
    split at h
    rotate_left
    · cases h
    split at h
    rotate_left
    · cases h
    rename_i hnz
    obtain ⟨y, ys, rfl, hy, hs1⟩ := g_ca hs
    replace hs := hs1
    obtain ⟨x, xs, rfl, hx, hs1⟩ := g_ca hs
    replace hs := hs1
    obtain ⟨w, rfl, hy⟩ := hy
    obtain ⟨z, rfl, hx⟩ := hx
    have hw0 := b_nz_ok hB hC hnz hy
    have hw : ¬ w = 0 := fun e => hw0 (by rw [e]; rfl)
    cases h
    exact bg_P1 (lg := true) (b_lrem_ok hk hB hC hx hy hw0) ⟨_, rfl, rfl⟩ (by simp only [q_pure, if_neg hw]) hl hs
  · -- lshl
    split at h
    rotate_left
    · cases h
    obtain ⟨y, ys, rfl, hy, hs1⟩ := g_ca hs
    replace hs := hs1
    obtain ⟨x, xs, rfl, hx, hs1⟩ := g_ca hs
    replace hs := hs1
    obtain ⟨w, rfl, hy⟩ := hy
    obtain ⟨z, rfl, hx⟩ := hx
    cases h
    exact bg_P1 (lg := true) (b_top_ok hk hB hC (g_in64 _)) ⟨_, rfl, rfl⟩ rfl hl hs
  · -- lshr
    split at h
    rotate_left
    · cases h
    obtain ⟨y, ys, rfl, hy, hs1⟩ := g_ca hs
    replace hs := hs1
    obtain ⟨x, xs, rfl, hx, hs1⟩ := g_ca hs
    replace hs := hs1
    obtain ⟨w, rfl, hy⟩ := hy
    obtain ⟨z, rfl, hx⟩ := hx
    cases h
    exact bg_P1 (lg := true) (b_top_ok hk hB hC (g_in64 _)) ⟨_, rfl, rfl⟩ rfl hl hs
  · -- i2l
    split at h
    rotate_left
    · cases h
    obtain ⟨y, ys, rfl, hy, hs1⟩ := g_ca hs
    replace hs := hs1
    obtain ⟨w, rfl, hy⟩ := hy
    cases h
    exact bg_P0 (List.mem_singleton.mpr rfl) rfl hk hB hC hl ⟨⟨w.toInt64, rfl, by rw [Int32.toInt_toInt64]; exact hy⟩, hs⟩
  · -- l2i
    split at h
    rotate_left
    · cases h
    obtain ⟨y, ys, rfl, hy, hs1⟩ := g_ca hs
    replace hs := hs1
    obtain ⟨w, rfl, hy⟩ := hy
    split at h
    · rename_i hc
      cases h
      have hc := b_within_ok hB hc hy
      exact bg_P0 (List.mem_singleton.mpr rfl) rfl hk hB hC hl ⟨⟨_, rfl, by rw [g_l2i (by omega) (by omega)]; exact hy⟩, hs⟩
    · cases h
      exact bg_P1 (lg := false) (b_top_ok hk hB hC (g_in32 _)) ⟨_, rfl, rfl⟩ rfl hl hs
  · -- i2b
    split at h
    rotate_left
    · cases h
    obtain ⟨y, ys, rfl, hy, hs1⟩ := g_ca hs
    replace hs := hs1
    obtain ⟨w, rfl, hy⟩ := hy
    split at h
    · rename_i hc
      cases h
      have hc := b_within_ok hB hc hy
      exact bg_P0 (List.mem_singleton.mpr rfl) rfl hk hB hC hl ⟨⟨_, rfl, by rw [g_s8 (by omega) (by omega)]; exact hy⟩, hs⟩
    · cases h
      exact bg_P1 (lg := false) (b_new_ok hk hB hC (g_b8 w).1 (g_b8 w).2) ⟨_, rfl, rfl⟩ rfl hl hs
  · -- i2s
    split at h
    rotate_left
    · cases h
    obtain ⟨y, ys, rfl, hy, hs1⟩ := g_ca hs
    replace hs := hs1
    obtain ⟨w, rfl, hy⟩ := hy
    split at h
    · rename_i hc
      cases h
      have hc := b_within_ok hB hc hy
      exact bg_P0 (List.mem_singleton.mpr rfl) rfl hk hB hC hl ⟨⟨_, rfl, by rw [g_s16 (by omega) (by omega)]; exact hy⟩, hs⟩
    · cases h
      exact bg_P1 (lg := false) (b_new_ok hk hB hC (g_b16 w).1 (g_b16 w).2) ⟨_, rfl, rfl⟩ rfl hl hs
  · -- ineg
    split at h
    rotate_left
    · cases h
    obtain ⟨y, ys, rfl, hy, hs1⟩ := g_ca hs
    replace hs := hs1
    obtain ⟨w, rfl, hy⟩ := hy
    cases h
    exact bg_P1 (lg := false) (b_neg32_ok hk hB hC hy) ⟨_, rfl, rfl⟩ rfl hl hs
  · -- lcmp
    split at h
    rotate_left
    · cases h
    obtain ⟨y, ys, rfl, hy, hs1⟩ := g_ca hs
    replace hs := hs1
    obtain ⟨x, xs, rfl, hx, hs1⟩ := g_ca hs
    replace hs := hs1
    obtain ⟨w, rfl, hy⟩ := hy
    obtain ⟨z, rfl, hx⟩ := hx
    cases h
    by_cases h1 : w < z
    · have e1 : lg_cmp z w = 1 := by simp [lg_cmp, h1]
      obtain ⟨q, a1, a2, a3⟩ := b_cmp_ok (c := .gt) hB hC hx hy (Int64.lt_iff_toInt_lt.mp h1)
      exact bg_PRr (bg_PRr (bg_cs a1 rfl hk a2 a3 hl ⟨⟨_, rfl, by rw [e1]; exact b_is_c _⟩, hs⟩))
    · by_cases h2 : z = w
      · have e1 : lg_cmp z w = 0 := by simp [lg_cmp, h2]
        obtain ⟨q, a1, a2, a3⟩ := b_cmp_ok (c := .eq) hB hC hx hy (by show z.toInt = w.toInt; rw [h2])
        exact bg_PRr (bg_PRl (bg_cs a1 rfl hk a2 a3 hl ⟨⟨_, rfl, by rw [e1]; exact b_is_c _⟩, hs⟩))
      · have e1 : lg_cmp z w = -1 := by simp [lg_cmp, h1, h2]
        obtain ⟨q, a1, a2, a3⟩ := b_cmp_ok (c := .lt) hB hC hx hy (by
          show z.toInt < w.toInt
          have n1 : ¬ w.toInt < z.toInt := fun q => h1 (Int64.lt_iff_toInt_lt.mpr q)
          have n2 : ¬ z.toInt = w.toInt := fun q => h2 (Int64.toInt_inj.mp q)
          omega)
        exact bg_PRl (bg_cs a1 rfl hk a2 a3 hl ⟨⟨_, rfl, by rw [e1]; exact b_is_c _⟩, hs⟩)
  · -- dup
    split at h
    rotate_left
    · cases h
    split at h
    rotate_left
    · cases h
    rename_i hc
    cases h
    obtain ⟨y, ys, rfl, hy, hs1⟩ := g_ca hs
    replace hs := hs1
    exact bg_P0 (st := y :: y :: ys) (List.mem_singleton.mpr rfl) (by simp only [q_pure, if_pos ((bg_cat hy).symm.trans hc)]) hk hB hC hl ⟨hy, hy, hs⟩
  · -- pop
    split at h
    rotate_left
    · cases h
    split at h
    rotate_left
    · cases h
    rename_i hc
    cases h
    obtain ⟨y, ys, rfl, hy, hs1⟩ := g_ca hs
    replace hs := hs1
    exact bg_P0 (st := ys) (List.mem_singleton.mpr rfl) (by simp only [q_pure, if_pos ((bg_cat hy).symm.trans hc)]) hk hB hC hl hs
  · -- dup2
    split at h
    rotate_left
    · cases h
    obtain ⟨y, ys, rfl, hy, hs1⟩ := g_ca hs
    replace hs := hs1
    have c1 := bg_cat hy
    split at h
    · rename_i hc
      cases h
      exact bg_P0 (st := y :: y :: ys) (List.mem_singleton.mpr rfl) (by simp only [q_pure]; rw [if_pos (by omega)]) hk hB hC hl ⟨hy, hy, hs⟩
    · rename_i hc0
      split at h
      rotate_left
      · cases h
      split at h
      rotate_left
      · cases h
      rename_i hc
      cases h
      obtain ⟨x, xs, rfl, hx, hs1⟩ := g_ca hs
      replace hs := hs1
      have c2 := bg_cat hx
      exact bg_P0 (st := y :: x :: y :: x :: xs) (List.mem_singleton.mpr rfl) (by simp only [q_pure]; rw [if_neg (by omega), if_pos ⟨by omega, by omega⟩]) hk hB hC hl ⟨hy, hx, hy, hx, hs⟩
  · -- pop2
    split at h
    rotate_left
    · cases h
    split at h
    rotate_left
    · cases h
    rename_i hc
    cases h
    obtain ⟨y, ys, rfl, hy, hs1⟩ := g_ca hs
    replace hs := hs1
    exact bg_P0 (st := ys) (List.mem_singleton.mpr rfl) (by simp only [q_pure, if_pos ((bg_cat hy).symm.trans hc)]) hk hB hC hl hs
  · -- ifCond
    split at h
    rotate_left
    · cases h
    obtain ⟨y, ys, rfl, hy, hs1⟩ := g_ca hs
    replace hs := hs1
    obtain ⟨w, rfl, hy⟩ := hy
    exact bg_br h hk hB hC hy (w := 0) (b_is_c _) hl hs
  · -- if_icmp
    split at h
    rotate_left
    · cases h
    obtain ⟨y, ys, rfl, hy, hs1⟩ := g_ca hs
    replace hs := hs1
    obtain ⟨x, xs, rfl, hx, hs1⟩ := g_ca hs
    replace hs := hs1
    obtain ⟨w, rfl, hy⟩ := hy
    obtain ⟨z, rfl, hx⟩ := hx
    exact bg_br h hk hB hC hx hy hl hs
  · -- goto
    exact bg_tos h (List.mem_singleton.mpr rfl) hk hB hC hl hs
  · -- tableswitch
    rename_i d lo hi offs
    split at h
    rotate_left
    · cases h
    split at h
    rotate_left
    · cases h
    rename_i hsz
    obtain ⟨y, ys, rfl, hy, hs1⟩ := g_ca hs
    replace hs := hs1
    obtain ⟨w, rfl, hy⟩ := hy
    obtain ⟨p1, p2, e1, e2, rfl⟩ := bg_cat2 h
    obtain ⟨p3, p4, e3, e4, rfl⟩ := bg_cat2 e2
    simp only [q_pure]
    by_cases h1 : w.toInt < lo
    · rw [if_pos (Or.inl h1)]
      obtain ⟨q, a1, a2, a3⟩ := b_cmp_ok (c := .lt) hB hC hy (b_is_c lo) h1
      exact bg_PRr (bg_PRl (bg_tos e3 a1 hk a2 a3 hl hs))
    · by_cases h2 : hi < w.toInt
      · rw [if_pos (Or.inr h2)]
        obtain ⟨q, a1, a2, a3⟩ := b_cmp_ok (c := .gt) hB hC hy (b_is_c hi) h2
        exact bg_PRr (bg_PRr (bg_tos e4 a1 hk a2 a3 hl hs))
      · rw [if_neg (by omega)]
        have hlt : (w.toInt - lo).toNat < offs.toList.length := by
          rw [Array.length_toList]
          omega
        have hget : offs[(w.toInt - lo).toNat]? = some (offs.toList[(w.toInt - lo).toNat]) := by
          rw [← Array.getElem?_toList, List.getElem?_eq_getElem hlt]
        rw [hget]
        exact bg_PRl (bg_tab hk hB hC hy hl hs offs.toList lo p1 e1 _ _ (List.getElem?_eq_getElem hlt) (by omega))
  · -- lookupswitch
    split at h
    rotate_left
    · cases h
    split at h
    rotate_left
    · cases h
    rename_i hc
    obtain ⟨y, ys, rfl, hy, hs1⟩ := g_ca hs
    replace hs := hs1
    obtain ⟨w, rfl, hy⟩ := hy
    simp only [q_pure]
    rw [if_pos hc]
    exact bg_lkp hk hy hl hs _ _ _ ⟨_, List.mem_singleton.mpr rfl, hB, hC⟩ h
  · cases h

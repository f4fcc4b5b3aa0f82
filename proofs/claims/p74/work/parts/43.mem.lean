/-! THE CHECKER'S MEMORY: a fixed shape with bounds (I), what is known of single places, tokens for what is known by hand -/
abbrev b_AI : Type := (List (Nat × Int × Int) × Int × Int) ⊕ (Unit ⊕ List Nat)
abbrev b_FI : Type := (Bool × Int × Int) ⊕ Nat
abbrev b_I : Type := (Nat × Nat × b_AI) ⊕ (Nat × List b_FI)
abbrev b_W : Type := List (Nat × Nat × Nat)
abbrev b_O : Type := Nat × b_T × b_N
abbrev b_Q : Type := Nat × List b_T
abbrev b_E : Type := Nat × a_B × List b_T × List b_O × List b_Q
abbrev b_X : Type := b_E × List b_V
def bi_f (x : b_FI) (y : Value) : Prop := match x with
  | .inl (false, lo, hi) => ∃ z : Int32, y = .int z ∧ lo ≤ z.toInt ∧ z.toInt ≤ hi
  | .inl (true, lo, hi) => ∃ z : Int64, y = .long z ∧ lo ≤ z.toInt ∧ z.toInt ≤ hi
  | .inr k => y = .ref k
def bi_c (x : b_I) (y : q_E) : Prop := match x with
  | .inl (t, n, .inl (ex, lo, hi)) => ∃ f : Nat → Int32, y = .inl (t, n, .inl f) ∧ (∀ j, j < n → lo ≤ (f j).toInt ∧ (f j).toInt ≤ hi) ∧ (∀ q ∈ ex, q.2.1 ≤ (f q.1).toInt ∧ (f q.1).toInt ≤ q.2.2) ∧ ∀ j, n ≤ j → f j = 0
  | .inl (t, n, .inr (.inl _)) => ∃ f : Nat → Int64, y = .inl (t, n, .inr (.inl f)) ∧ ∀ j, n ≤ j → f j = 0
  | .inl (t, n, .inr (.inr rs)) => ∃ f : Nat → Option Nat, y = .inl (t, n, .inr (.inr f)) ∧ rs.length = n ∧ ∀ j, f j = rs[j]?
  | .inr (ci, fs) => ∃ vs : List Value, y = .inr (ci, vs) ∧ g_2 bi_f fs vs
abbrev bi_M (I : List b_I) (m : q_M) : Prop := g_2 bi_c I m
/-- what stands at a place: a field, an element -/
def q_at (m : q_M) (c j : Nat) : Value := match m[c]? with
  | some (.inr (_, vs)) => vs.getD j .null
  | some (.inl (_, _, .inl f)) => .int (f j)
  | some (.inl (_, _, .inr (.inl f))) => .long (f j)
  | _ => .null
def b_plW (W : b_W) (c j : Nat) : Prop := ∃ w ∈ W, w.1 = c ∧ w.2.1 ≤ j ∧ j ≤ w.2.2
/-- nothing has changed but in W -/
def q_same (W : b_W) (m m1 : q_M) : Prop := ∀ c j, ¬ b_plW W c j → q_at m1 c j = q_at m c j
theorem q_same.rf {W : b_W} {m : q_M} : q_same W m m := fun _ _ _ => rfl
theorem q_same.tr {W : b_W} {m m1 m2 : q_M} (h1 : q_same W m m1) (h2 : q_same W m1 m2) : q_same W m m2 := fun c j h => (h2 c j h).trans (h1 c j h)
theorem q_same.mono {W V : b_W} {m m1 : q_M} (h : ∀ c j, b_plW W c j → b_plW V c j) (h1 : q_same W m m1) : q_same V m m1 := fun c j hv => h1 c j (fun hw => hv (h c j hw))
theorem q_at_obj {m : q_M} {c ci j : Nat} {vs : List Value} (h : m[c]? = some (.inr (ci, vs))) : q_at m c j = vs.getD j .null := by
  unfold q_at
  rw [h]
theorem q_at_int {m : q_M} {c t n j : Nat} {f : Nat → Int32} (h : m[c]? = some (.inl (t, n, .inl f))) : q_at m c j = .int (f j) := by
  unfold q_at
  rw [h]
theorem q_at_long {m : q_M} {c t n j : Nat} {f : Nat → Int64} (h : m[c]? = some (.inl (t, n, .inr (.inl f)))) : q_at m c j = .long (f j) := by
  unfold q_at
  rw [h]
theorem q_at_ne {m : q_M} {c d j : Nat} {x : q_E} (h : c ≠ d) : q_at (m.set c x) d j = q_at m d j := by
  unfold q_at
  rw [List.getElem?_set_ne h]
theorem q_get_set {m : q_M} {c : Nat} {x y : q_E} (h : m[c]? = some y) : (m.set c x)[c]? = some x := by
  have hl := (List.getElem?_eq_some_iff.mp h).1
  simp [hl]
def b_mo (mo : List b_O) (c : Nat) (t : b_T) : Option b_N := match mo with
  | [] => none
  | o :: mo => match Nat.beq o.1 c with
    | true => if o.2.1 = t then some o.2.2 else b_mo mo c t
    | false => b_mo mo c t
/-- may the place be between lo and hi -/
def b_ovl (B : a_B) (t : b_T) (lo hi : Nat) : Bool := match b_iv B t with
  | some p => decide (p.1 ≤ (hi : Int) ∧ (lo : Int) ≤ p.2)
  | none => true
def b_drp (B : a_B) (mo : List b_O) (c lo hi : Nat) : List b_O := mo.filter (fun o => !(Nat.beq o.1 c && b_ovl B o.2.1 lo hi))
def b_apart (fw : b_W) (c lo hi : Nat) : Bool := fw.all (fun w => !(Nat.beq w.1 c && decide (w.2.1 ≤ hi ∧ lo ≤ w.2.2)))
def b_dtk (fp : Nat → b_W) (tk : List b_Q) (c lo hi : Nat) : List b_Q := tk.filter (fun t => b_apart (fp t.1) c lo hi)
def b_inW (W : b_W) (c lo hi : Nat) : Bool := W.any (fun w => Nat.beq w.1 c && decide (w.2.1 ≤ lo ∧ hi ≤ w.2.2))
def b_wr0 (fp : Nat → b_W) (E : b_E) (c lo hi : Nat) : b_E := (E.1, E.2.1, E.2.2.1, b_drp E.2.1 E.2.2.2.1 c lo hi, b_dtk fp E.2.2.2.2 c lo hi)
/-- tokens that a write gives, by rules proved by hand -/
abbrev b_Sto : Type := b_E → Nat → b_T → b_N → List b_Q
/-- may two places be the same -/
def b_meq (B : a_B) (t x : b_T) : Bool := match b_iv B (b_ad t (-1) x) with
  | some p => decide (p.1 ≤ 0 ∧ 0 ≤ p.2)
  | none => true
def b_drx (B : a_B) (mo : List b_O) (c : Nat) (x : b_T) : List b_O := mo.filter (fun o => !(Nat.beq o.1 c && b_meq B o.2.1 x))
def b_wr (fp : Nat → b_W) (sto : b_Sto) (E : b_E) (c lo hi : Nat) (t : b_T) (v : b_N) : b_E := (E.1, E.2.1, E.2.2.1, (c, t, v) :: b_drx E.2.1 E.2.2.2.1 c t, sto E c t v ++ b_dtk fp E.2.2.2.2 c lo hi)
def b_inb (E : b_E) (e : b_T) (lo hi : Int) : Bool := b_ent E.2.1 E.2.2.1 (e.1, e.2 - lo) && b_ent E.2.1 E.2.2.1 (b_ad (b_c hi) (-1) e)
def b_wb (fp : Nat → b_W) (sto : b_Sto) (E : b_E) (t c lo hi : Nat) (x e : b_T) : b_E := match E.2.2.2.2 with
  | [] => b_wr0 fp E c lo hi
  | _ => if t = 3 ∧ b_inb E e 0 1 = true then b_wr fp sto E c lo hi x (false, e) else b_wr0 fp E c lo hi
/-- the value was read at a place of another row, so much further on, that has such bounds -/
def b_cpx (E : b_E) (I : List b_I) (x e : b_T) (q : Nat × Int × Int) : Bool := E.2.2.2.1.any (fun o => decide (o.2.2 = (false, e)) && (match I[o.1]? with
  | some (.inl (_, _, .inl (ex2, _, _))) => (match b_iv E.2.1 (b_ad o.2.1 (-1) x) with
    | some p => ex2.any (fun q2 => decide (p.1 = p.2 ∧ (q2.1 : Int) = (q.1 : Int) + p.1 ∧ q.2.1 ≤ q2.2.1 ∧ q2.2.2 ≤ q.2.2))
    | none => false)
  | _ => false))
def b_rd (E : b_E) (c : Nat) (t : b_T) (lg : Bool) (lo hi : Int) (r : List b_V) : b_X := match b_mo E.2.2.2.1 c t with
  | some v => (E, .inl v :: r)
  | none => match b_new E.1 E.2.1 E.2.2.1 lg lo hi with
    | (k, B, C, v) => ((k, B, C, (c, t, v) :: E.2.2.2.1, E.2.2.2.2), .inl v :: r)
def b_idx (E : b_E) (x : b_T) (n : Nat) : Bool := b_ent E.2.1 E.2.2.1 x && b_ent E.2.1 E.2.2.1 (b_ad (b_c ((n : Int) - 1)) (-1) x)
def b_ex (ex : List (Nat × Int × Int)) (j : Nat) : Option (Int × Int) := match ex with
  | [] => none
  | q :: ex => match Nat.beq q.1 j with
    | true => some q.2
    | false => b_ex ex j
def b_bnd (B : a_B) (ex : List (Nat × Int × Int)) (lo hi : Int) (x : b_T) : Int × Int := match ex with
  | [] => (lo, hi)
  | _ => (match b_iv B x with
    | some p => if p.1 = p.2 then (match b_ex ex p.1.toNat with | some r => r | none => (lo, hi)) else (lo, hi)
    | none => (lo, hi))
/-- the places that an index may mean -/
def b_rg (B : a_B) (x : b_T) (n : Nat) : Nat × Nat := match b_iv B x with
  | some p => (p.1.toNat, (a_mn p.2 ((n : Int) - 1)).toNat)
  | none => (0, n)
def b_fit (ty : FieldType) (lg : Bool) : Bool := match ty, lg with
  | .int, false => true
  | .long, true => true
  | _, _ => false
def b_refs (E : b_E) (x : b_T) (r : List b_V) : Int → List Nat → List b_X
  | _, [] => []
  | j, c :: cs => (b_cmp E.2.1 E.2.2.1 .eq x (b_c j)).map (fun q => ((E.1, q.1, q.2, E.2.2.2), .inr (.inl c) :: r)) ++ b_refs E x r (j + 1) cs
def b_ac (v : List b_V) : Nat := (v.map b_cat).sum
def b_cpy (fp : Nat → b_W) (W : b_W) (E : b_E) (I : List b_I) (r : List b_V) (w dp sp : b_T) (d j : Nat) : Option (List b_X) := match I[j]?, I[d]? with
  | some (.inl (t0, n0, .inl (_, l0, h0))), some (.inl (t1, n1, .inl ([], l1, h1))) => if t0 = 0 ∧ t1 = 0 ∧ l1 ≤ l0 ∧ h0 ≤ h1 ∧ 0 < n1 ∧ b_ent E.2.1 E.2.2.1 w = true ∧ b_ent E.2.1 E.2.2.1 dp = true ∧ b_ent E.2.1 E.2.2.1 sp = true ∧ b_ent E.2.1 E.2.2.1 (b_ad (b_ad (b_c n0) (-1) sp) (-1) w) = true ∧ b_ent E.2.1 E.2.2.1 (b_ad (b_ad (b_c n1) (-1) dp) (-1) w) = true ∧ b_inW W d 0 (n1 - 1) = true then some [(b_wr0 fp E d 0 (n1 - 1), r)] else none
  | some (.inl (t0, n0, .inr (.inl _))), some (.inl (t1, n1, .inr (.inl _))) => if t0 = 1 ∧ t1 = 1 ∧ 0 < n1 ∧ b_ent E.2.1 E.2.2.1 w = true ∧ b_ent E.2.1 E.2.2.1 dp = true ∧ b_ent E.2.1 E.2.2.1 sp = true ∧ b_ent E.2.1 E.2.2.1 (b_ad (b_ad (b_c n0) (-1) sp) (-1) w) = true ∧ b_ent E.2.1 E.2.2.1 (b_ad (b_ad (b_c n1) (-1) dp) (-1) w) = true ∧ b_inW W d 0 (n1 - 1) = true then some [(b_wr0 fp E d 0 (n1 - 1), r)] else none
  | _, _ => none
/-- bounds of a long that is read, by rules proved by hand -/
abbrev b_Rdb : Type := (b_E → Nat → b_T → Option (Int × Int)) × (b_E → Nat → b_T → Option (Int × Int))
def b_rdl (rdb : b_Rdb) (E : b_E) (a : Nat) (x : b_T) : Int × Int := match E.2.2.2.2 with
  | [] => (-9223372036854775808, 9223372036854775807)
  | _ => match rdb.1 E a x with
    | some q => q
    | none => (-9223372036854775808, 9223372036854775807)
def b_rdi (rdb : b_Rdb) (E : b_E) (a : Nat) (x : b_T) (p : Int × Int) : Int × Int := match E.2.2.2.2 with
  | [] => p
  | _ => match rdb.2 E a x with
    | some q => q
    | none => p
def b_mem (G : q_G) (I : List b_I) (W : b_W) (fp : Nat → b_W) (sto : b_Sto) (rdb : b_Rdb) (fr lo : Nat) (i : Instr) (E : b_E) (st : List b_V) : Option (List b_X) := match i with
  | .getfield n => (match st with | .inr (.inl a) :: r => (match I[a]? with | some (.inr (ci, fs)) => if ci = n / 64 then (match fs[n % 64]? with | some (.inr c) => some [(E, .inr (.inl c) :: r)] | some (.inl (lg, l, h)) => some [b_rd E a (b_c ((n % 64 : Nat) : Int)) lg l h r] | none => none) else none | _ => none) | _ => none)
  | .putfield n => (match st with | .inl (lg, e) :: .inr (.inl a) :: r => (match I[a]? with | some (.inr (ci, fs)) => (match fs[n % 64]? with | some (.inl (lg1, l, h)) => if ci = n / 64 ∧ lg = lg1 ∧ b_fit (q_gY G ci (n % 64)) lg = true ∧ b_inb E e l h = true ∧ b_inW W a (n % 64) (n % 64) = true then some [(b_wr fp sto E a (n % 64) (n % 64) (b_c ((n % 64 : Nat) : Int)) (lg, e), r)] else none | _ => none) | _ => none) | _ => none)
  | .iaload => (match st with | .inl (false, x) :: .inr (.inl a) :: r => (match I[a]? with | some (.inl (t, n, .inl (ex, l, h))) => if t = 0 ∧ b_idx E x n = true then some [b_rd E a x false (b_rdi rdb E a x (b_bnd E.2.1 ex l h x)).1 (b_rdi rdb E a x (b_bnd E.2.1 ex l h x)).2 r] else none | _ => none) | _ => none)
  | .baload => (match st with | .inl (false, x) :: .inr (.inl a) :: r => (match I[a]? with | some (.inl (t, n, .inl (ex, l, h))) => if (t = 2 ∨ t = 3) ∧ b_idx E x n = true then some [b_rd E a x false (b_bnd E.2.1 ex l h x).1 (b_bnd E.2.1 ex l h x).2 r] else none | _ => none) | _ => none)
  | .laload => (match st with | .inl (false, x) :: .inr (.inl a) :: r => (match I[a]? with | some (.inl (t, n, .inr (.inl _))) => if t = 1 ∧ b_idx E x n = true then some [b_rd E a x true (b_rdl rdb E a x).1 (b_rdl rdb E a x).2 r] else none | _ => none) | _ => none)
  | .aaload => (match st with | .inl (false, x) :: .inr (.inl a) :: r => (match I[a]? with | some (.inl (t, n, .inr (.inr rs))) => if 4 ≤ t ∧ t < (q_gA G).length ∧ b_idx E x n = true then some (b_refs E x r 0 rs) else none | _ => none) | _ => none)
  | .iastore => (match st with | .inl (false, e) :: .inl (false, x) :: .inr (.inl a) :: r => (match I[a]? with | some (.inl (t, n, .inl (ex, l, h))) => if t = 0 ∧ b_idx E x n = true ∧ b_inb E e l h = true ∧ ex.all (fun q => !(decide ((b_rg E.2.1 x n).1 ≤ q.1 ∧ q.1 ≤ (b_rg E.2.1 x n).2)) || (b_inb E e q.2.1 q.2.2 || b_cpx E I x e q)) = true ∧ b_inW W a (b_rg E.2.1 x n).1 (b_rg E.2.1 x n).2 = true then some [(b_wr fp sto E a (b_rg E.2.1 x n).1 (b_rg E.2.1 x n).2 x (false, e), r)] else none | _ => none) | _ => none)
  | .bastore => (match st with | .inl (false, e) :: .inl (false, x) :: .inr (.inl a) :: r => (match I[a]? with | some (.inl (t, n, .inl ([], l, h))) => if ((t = 2 ∧ l ≤ -128 ∧ 127 ≤ h) ∨ (t = 3 ∧ l ≤ 0 ∧ 1 ≤ h)) ∧ b_idx E x n = true ∧ b_inW W a (b_rg E.2.1 x n).1 (b_rg E.2.1 x n).2 = true then some [(b_wb fp sto E t a (b_rg E.2.1 x n).1 (b_rg E.2.1 x n).2 x e, r)] else none | _ => none) | _ => none)
  | .lastore => (match st with | .inl (true, e) :: .inl (false, x) :: .inr (.inl a) :: r => (match I[a]? with | some (.inl (t, n, .inr (.inl _))) => if t = 1 ∧ b_idx E x n = true ∧ b_inW W a (b_rg E.2.1 x n).1 (b_rg E.2.1 x n).2 = true then some [(b_wr fp sto E a (b_rg E.2.1 x n).1 (b_rg E.2.1 x n).2 x (true, e), r)] else none | _ => none) | _ => none)
  | .arraylength => (match st with | .inr (.inl a) :: r => (match I[a]? with | some (.inl (t, n, _)) => if t < (q_gA G).length ∧ n < 2147483648 then some [(E, .inl (false, b_c n) :: r)] else none | _ => none) | _ => none)
  | .invokedynamic n => if n = 1 then (match st with | .inl (false, w) :: .inl (false, dp) :: .inr (.inl d) :: .inl (false, sp) :: .inr (.inl j) :: r => if 1 ≤ fr ∧ b_ac r + 18 ≤ lo then b_cpy fp W E I r w dp sp d j else none | _ => none)
      else if n = 2 then (match st with | .inr (.inr (a + 1)) :: r => (match (q_gS G)[a]? with | some x => if 5 ≤ fr ∧ b_ac r ≤ 8 ∧ 120 ≤ lo ∧ x.2.2.2.length < 2147483648 then some [(E, .inl (false, b_c x.2.2.2.length) :: r)] else none | none => none) | _ => none)
      else if n = 3 then (match st with | .inl (false, j) :: .inr (.inr (a + 1)) :: r => (match (q_gS G)[a]? with | some x => if 5 ≤ fr ∧ b_ac r ≤ 8 ∧ 120 ≤ lo ∧ b_idx E j x.2.2.2.length = true then (match b_new E.1 E.2.1 E.2.2.1 false 0 255 with | (k, B, C, v) => some [((k, B, C, E.2.2.2), .inl v :: r)]) else none | none => none) | _ => none)
      else none
  | _ => none
/-- what they mean -/
def bg_O (v : List Int) (m : q_M) (o : b_O) : Prop := ∃ j : Nat, b_is v o.2.1 j ∧ bg_n v o.2.2 (q_at m o.1 j)
def bg_Q (F : Nat → List Int → q_M → Prop) (v : List Int) (m : q_M) (t : b_Q) : Prop := ∃ zs : List Int, g_2 (b_is v) t.2 zs ∧ F t.1 zs m
/-- a token holds as long as its own places stay -/
def bg_F (I : List b_I) (fp : Nat → b_W) (F : Nat → List Int → q_M → Prop) : Prop := ∀ id zs m m1, bi_M I m → bi_M I m1 → (∀ c j, b_plW (fp id) c j → q_at m1 c j = q_at m c j) → F id zs m → F id zs m1
def bg_E (F : Nat → List Int → q_M → Prop) (v : List Int) (E : b_E) (m : q_M) : Prop := v.length = E.1 ∧ g_B v E.2.1 ∧ bg_C v E.2.2.1 ∧ (∀ o ∈ E.2.2.2.1, bg_O v m o) ∧ (∀ t ∈ E.2.2.2.2, bg_Q F v m t)
def bg_X (I : List b_I) (W : b_W) (F : Nat → List Int → q_M → Prop) (v : List Int) (m : q_M) (xs : List b_X) (res : Option (List Value × q_M)) : Prop := ∃ x ∈ xs, ∃ (t : List Int) (st1 : List Value) (m1 : q_M), res = some (st1, m1) ∧ bg_E F (v ++ t) x.1 m1 ∧ bg_s (v ++ t) x.2 st1 ∧ bi_M I m1 ∧ q_same W m m1
theorem bg_O_ext {v t : List Int} {m : q_M} {o : b_O} (h : bg_O v m o) : bg_O (v ++ t) m o := by
  obtain ⟨j, h1, h2⟩ := h
  exact ⟨j, b_is_ext h1, bg_n_ext h2⟩
theorem g_2_map {α β : Type} {R S : α → β → Prop} (h : ∀ a b, R a b → S a b) {as : List α} {bs : List β} (h1 : g_2 R as bs) : g_2 S as bs := g_2_mono h h1
theorem bg_Q_ext {F : Nat → List Int → q_M → Prop} {v t : List Int} {m : q_M} {o : b_Q} (h : bg_Q F v m o) : bg_Q F (v ++ t) m o := by
  obtain ⟨j, h1, h2⟩ := h
  exact ⟨j, g_2_mono (fun _ _ => b_is_ext) h1, h2⟩
theorem b_mo_ok : ∀ {mo : List b_O} {c : Nat} {t : b_T} {v : b_N}, b_mo mo c t = some v → (c, t, v) ∈ mo
  | [], c, t, v, h => by simp [b_mo] at h
  | o :: mo, c, t, v, h => by
    unfold b_mo at h
    split at h
    · rename_i hb
      have hb := Nat.eq_of_beq_eq_true hb
      split at h
      · rename_i ht
        cases h
        subst hb
        subst ht
        exact List.mem_cons_self
      · exact List.mem_cons_of_mem _ (b_mo_ok h)
    · exact List.mem_cons_of_mem _ (b_mo_ok h)
theorem b_beq_ne {a b : Nat} (h : a ≠ b) : Nat.beq a b = false := by
  cases hb : Nat.beq a b with
  | false => rfl
  | true => exact absurd (Nat.eq_of_beq_eq_true hb) h
/-- a write: what is known of other places stays -/
theorem bg_drp {v : List Int} {B : a_B} (hB : g_B v B) {m m1 : q_M} {c lo hi : Nat} (hm : ∀ d j, ¬ (d = c ∧ lo ≤ j ∧ j ≤ hi) → q_at m1 d j = q_at m d j) {mo : List b_O} (h : ∀ o ∈ mo, bg_O v m o) : ∀ o ∈ b_drp B mo c lo hi, bg_O v m1 o := by
  intro o ho
  obtain ⟨h1, h2⟩ := List.mem_filter.mp ho
  obtain ⟨j, h3, h4⟩ := h o h1
  refine ⟨j, h3, ?_⟩
  rw [hm]
  · exact h4
  · rintro ⟨e1, e2, e3⟩
    rw [e1, Nat.beq_refl, Bool.true_and, Bool.not_eq_true'] at h2
    unfold b_ovl at h2
    split at h2
    · rename_i p hp
      have := b_iv_ok hB hp h3
      simp only [decide_eq_false_iff_not] at h2
      omega
    · cases h2
theorem bg_drx {v : List Int} {B : a_B} (hB : g_B v B) {m m1 : q_M} {c k : Nat} {x : b_T} (hx : b_is v x (k : Int)) (hm : ∀ d j, ¬ (d = c ∧ j = k) → q_at m1 d j = q_at m d j) {mo : List b_O} (h : ∀ o ∈ mo, bg_O v m o) : ∀ o ∈ b_drx B mo c x, bg_O v m1 o := by
  intro o ho
  obtain ⟨h1, h2⟩ := List.mem_filter.mp ho
  obtain ⟨j, h3, h4⟩ := h o h1
  refine ⟨j, h3, ?_⟩
  rw [hm]
  · exact h4
  · rintro ⟨e1, e2⟩
    rw [e1, Nat.beq_refl, Bool.true_and, Bool.not_eq_true'] at h2
    unfold b_meq at h2
    split at h2
    · rename_i p hp
      have := b_iv_ok hB hp (b_is_ad (k := -1) h3 hx)
      simp only [decide_eq_false_iff_not] at h2
      omega
    · cases h2
theorem bg_dtk {I : List b_I} {F : Nat → List Int → q_M → Prop} {fp : Nat → b_W} (hF : bg_F I fp F) {v : List Int} {m m1 : q_M} (hM : bi_M I m) (hM1 : bi_M I m1) {c lo hi : Nat} (hm : ∀ d j, ¬ (d = c ∧ lo ≤ j ∧ j ≤ hi) → q_at m1 d j = q_at m d j) {tk : List b_Q} (h : ∀ t ∈ tk, bg_Q F v m t) : ∀ t ∈ b_dtk fp tk c lo hi, bg_Q F v m1 t := by
  intro t ht
  obtain ⟨h1, h2⟩ := List.mem_filter.mp ht
  obtain ⟨zs, h3, h4⟩ := h t h1
  refine ⟨zs, h3, hF _ _ _ _ hM hM1 ?_ h4⟩
  rintro d j ⟨w, hw, e1, e2, e3⟩
  refine hm d j ?_
  rintro ⟨e4, e5, e6⟩
  have h5 := List.all_eq_true.mp h2 w hw
  rw [e1, e4, Nat.beq_refl, Bool.true_and, Bool.not_eq_true', decide_eq_false_iff_not] at h5
  omega
theorem b_inW_ok {W : b_W} {c lo hi j : Nat} (h : b_inW W c lo hi = true) (h1 : lo ≤ j) (h2 : j ≤ hi) : b_plW W c j := by
  obtain ⟨w, hw, h3⟩ := List.any_eq_true.mp h
  rw [Bool.and_eq_true, decide_eq_true_eq] at h3
  exact ⟨w, hw, Nat.eq_of_beq_eq_true h3.1, by omega, by omega⟩
theorem b_same_of {W : b_W} {c lo hi : Nat} {m m1 : q_M} (h : b_inW W c lo hi = true) (hm : ∀ d j, ¬ (d = c ∧ lo ≤ j ∧ j ≤ hi) → q_at m1 d j = q_at m d j) : q_same W m m1 := by
  intro d j hn
  refine hm d j ?_
  rintro ⟨rfl, e2, e3⟩
  exact hn (b_inW_ok h e2 e3)
section BMEM
variable {F : Nat → List Int → q_M → Prop} {fp : Nat → b_W} {v : List Int} {E : b_E} {m : q_M} {I : List b_I} {W : b_W}
theorem b_wr0_ok (hF : bg_F I fp F) {c lo hi : Nat} {m1 : q_M} (hE : bg_E F v E m) (hM : bi_M I m) (hM1 : bi_M I m1) (hm : ∀ d j, ¬ (d = c ∧ lo ≤ j ∧ j ≤ hi) → q_at m1 d j = q_at m d j) : bg_E F v (b_wr0 fp E c lo hi) m1 :=
  ⟨hE.1, hE.2.1, hE.2.2.1, bg_drp hE.2.1 hm hE.2.2.2.1, bg_dtk hF hM hM1 hm hE.2.2.2.2⟩
/-- the rules for reads are right -/
def bg_Rdb (I : List b_I) (F : Nat → List Int → q_M → Prop) (rdb : b_Rdb) : Prop := (∀ (v : List Int) (E : b_E) (m : q_M) (a : Nat) (x : b_T) (j : Nat) (z : Int64) (q : Int × Int), bg_E F v E m → bi_M I m → b_is v x (j : Int) → q_at m a j = .long z → rdb.1 E a x = some q → q.1 ≤ z.toInt ∧ z.toInt ≤ q.2)
  ∧ ∀ (v : List Int) (E : b_E) (m : q_M) (a : Nat) (x : b_T) (j : Nat) (z : Int32) (q : Int × Int), bg_E F v E m → bi_M I m → b_is v x (j : Int) → q_at m a j = .int z → rdb.2 E a x = some q → q.1 ≤ z.toInt ∧ z.toInt ≤ q.2
/-- the rules for writes are right -/
def bg_Sto (I : List b_I) (F : Nat → List Int → q_M → Prop) (sto : b_Sto) : Prop := ∀ (v : List Int) (E : b_E) (m m1 : q_M) (c : Nat) (x : b_T) (e : b_N) (j : Nat), bg_E F v E m → bi_M I m → bi_M I m1 → b_is v x (j : Int) → (∀ d k, ¬ (d = c ∧ k = j) → q_at m1 d k = q_at m d k) → bg_n v e (q_at m1 c j) → ∀ t ∈ sto E c x e, bg_Q F v m1 t
theorem b_wr_ok (hF : bg_F I fp F) {sto : b_Sto} (hS : bg_Sto I F sto) {c lo hi : Nat} {t : b_T} {x : b_N} {m1 : q_M} {j : Nat} (hE : bg_E F v E m) (hM : bi_M I m) (hM1 : bi_M I m1) (hm1 : ∀ d k, ¬ (d = c ∧ k = j) → q_at m1 d k = q_at m d k) (hlo : lo ≤ j) (hhi : j ≤ hi) (hj : b_is v t j) (hx : bg_n v x (q_at m1 c j)) : bg_E F v (b_wr fp sto E c lo hi t x) m1 := by
  have hm : ∀ d k, ¬ (d = c ∧ lo ≤ k ∧ k ≤ hi) → q_at m1 d k = q_at m d k := fun d k hd => hm1 d k (fun ⟨e1, e2⟩ => hd ⟨e1, by omega, by omega⟩)
  refine ⟨hE.1, hE.2.1, hE.2.2.1, ?_, ?_⟩
  · intro o ho
    rcases List.mem_cons.mp ho with rfl | ho
    · exact ⟨j, hj, hx⟩
    · exact bg_drx hE.2.1 hj hm1 hE.2.2.2.1 o ho
  · intro u hu
    rcases List.mem_append.mp hu with hu | hu
    · exact hS v E m m1 c t x j hE hM hM1 hj hm1 hx u hu
    · exact bg_dtk hF hM hM1 hm hE.2.2.2.2 u hu
theorem b_cpx_ok (hE : bg_E F v E m) (hM : bi_M I m) {x e : b_T} {q : Nat × Int × Int} {z : Int32} (h : b_cpx E I x e q = true) (hx : b_is v x (q.1 : Int)) (he : b_is v e z.toInt) : q.2.1 ≤ z.toInt ∧ z.toInt ≤ q.2.2 := by
  obtain ⟨o, ho, h1⟩ := List.any_eq_true.mp h
  rw [Bool.and_eq_true, decide_eq_true_eq] at h1
  obtain ⟨h1, h2⟩ := h1
  split at h2
  rotate_left
  · cases h2
  rename_i t n ex2 l2 u2 hI
  split at h2
  rotate_left
  · cases h2
  rename_i p hp
  obtain ⟨q2, hq2, h3⟩ := List.any_eq_true.mp h2
  rw [decide_eq_true_eq] at h3
  obtain ⟨y, hm, f, rfl, -, hf, -⟩ := g_2_get hM hI
  obtain ⟨j, j1, j2⟩ := hE.2.2.2.1 o ho
  have hd := b_iv_ok hE.2.1 hp (b_is_ad (k := -1) j1 hx)
  have ej : j = q2.1 := by omega
  rw [h1, q_at_int hm] at j2
  obtain ⟨w, w1, w2⟩ := j2
  cases w1
  have := b_is_uniq w2 he
  have := hf q2 hq2
  rw [ej] at *
  omega
theorem b_inb_ok (hE : bg_E F v E m) {e : b_T} {lo hi z : Int} (h : b_inb E e lo hi = true) (hz : b_is v e z) : lo ≤ z ∧ z ≤ hi := by
  unfold b_inb at h
  rw [Bool.and_eq_true] at h
  have h1 := b_ent_ok hE.2.1 hE.2.2.1 h.1 (z := z - lo) (by
    obtain ⟨s, e1, rfl⟩ := hz
    exact ⟨s, e1, by show _ = s + (e.2 - lo); omega⟩)
  have h2 := b_ent_ok hE.2.1 hE.2.2.1 h.2 (b_is_ad (k := -1) (b_is_c hi) hz)
  omega
theorem b_idx_ok (hE : bg_E F v E m) {x : b_T} {n : Nat} {j : Int32} (h : b_idx E x n = true) (hj : b_is v x j.toInt) : q_in j n = true ∧ (j.toNatClampNeg : Int) = j.toInt ∧ j.toNatClampNeg < n := by
  unfold b_idx at h
  rw [Bool.and_eq_true] at h
  have h1 := b_ent_ok hE.2.1 hE.2.2.1 h.1 hj
  have h2 := b_ent_ok hE.2.1 hE.2.2.1 h.2 (b_is_ad (k := -1) (b_is_c ((n : Int) - 1)) hj)
  obtain ⟨g1, g2, g3, -⟩ := g_ix (j := j) (n := n) h1 (by omega)
  exact ⟨g1, g2, g3⟩
theorem b_rg_ok (hE : bg_E F v E m) {x : b_T} {n j : Nat} (hj : b_is v x (j : Int)) (hn : j < n) : (b_rg E.2.1 x n).1 ≤ j ∧ j ≤ (b_rg E.2.1 x n).2 := by
  unfold b_rg
  split
  · rename_i p hp
    have h := b_iv_ok hE.2.1 hp hj
    simp only
    refine ⟨by omega, ?_⟩
    have : (j : Int) ≤ a_mn p.2 ((n : Int) - 1) := a_mn_ge h.2 (by omega)
    omega
  · simp only
    omega
theorem b_ex_ok : ∀ {ex : List (Nat × Int × Int)} {j : Nat} {r : Int × Int}, b_ex ex j = some r → (j, r) ∈ ex
  | [], j, r, h => by simp [b_ex] at h
  | q :: ex, j, r, h => by
    unfold b_ex at h
    split at h
    · rename_i hb
      have hb := Nat.eq_of_beq_eq_true hb
      cases h
      subst hb
      exact List.mem_cons_self
    · exact List.mem_cons_of_mem _ (b_ex_ok h)
theorem b_bnd_ok {B : a_B} (hB : g_B v B) {ex : List (Nat × Int × Int)} {lo hi : Int} {x : b_T} {f : Nat → Int32} {j n : Nat} (hj : b_is v x (j : Int)) (hn : j < n) (h1 : ∀ j, j < n → lo ≤ (f j).toInt ∧ (f j).toInt ≤ hi) (h2 : ∀ q ∈ ex, q.2.1 ≤ (f q.1).toInt ∧ (f q.1).toInt ≤ q.2.2) : (b_bnd B ex lo hi x).1 ≤ (f j).toInt ∧ (f j).toInt ≤ (b_bnd B ex lo hi x).2 := by
  unfold b_bnd
  split
  · exact h1 j hn
  · split
    · rename_i p hp
      have h := b_iv_ok hB hp hj
      split
      · split
        · rename_i r hr
          have e : p.1.toNat = j := by omega
          rw [e] at hr
          exact h2 _ (b_ex_ok hr)
        · exact h1 j hn
      · exact h1 j hn
    · exact h1 j hn
/-- a read: the known value, or a new one within its bounds -/
theorem b_rd_ok {c j : Nat} {t : b_T} {lg : Bool} {lo hi z : Int} {r : List b_V} {st : List Value} (hE : bg_E F v E m) (hM : bi_M I m) (hj : b_is v t (j : Int)) (hz1 : lo ≤ z) (hz2 : z ≤ hi) (hz : match lg with | false => ∃ w : Int32, q_at m c j = .int w ∧ w.toInt = z | true => ∃ w : Int64, q_at m c j = .long w ∧ w.toInt = z) (hs : bg_s v r st) {res : Option (List Value × q_M)} (hr : res = some (q_at m c j :: st, m)) : bg_X I W F v m [b_rd E c t lg lo hi r] res := by
  refine ⟨_, List.mem_singleton.mpr rfl, ?_⟩
  unfold b_rd
  split
  · rename_i x hx
    obtain ⟨j2, h1, h2⟩ := hE.2.2.2.1 _ (b_mo_ok hx)
    have e : (j2 : Int) = j := b_is_uniq h1 hj
    have e : j2 = j := by omega
    subst e
    exact ⟨[], _, m, hr, by simpa using hE, by simpa using ⟨h2, hs⟩, hM, q_same.rf⟩
  · split
    rename_i k B C x hx
    have hR := b_new_ok hE.1 hE.2.1 hE.2.2.1 (lg := lg) hz1 hz2
    rw [hx] at hR
    obtain ⟨t1, g1, g2, g3, g4, g5⟩ := hR
    obtain ⟨lg1, e1⟩ := x
    simp only at g1 g2 g3 g4 g5
    subst g4
    have hn : bg_n (v ++ t1) (lg1, e1) (q_at m c j) := by
      cases lg1 with
      | false =>
        obtain ⟨w, e2, rfl⟩ := hz
        exact ⟨w, e2, g5⟩
      | true =>
        obtain ⟨w, e2, rfl⟩ := hz
        exact ⟨w, e2, g5⟩
    refine ⟨t1, _, m, hr, ⟨g1, g2, g3, ?_, fun t ht => bg_Q_ext (hE.2.2.2.2 t ht)⟩, ⟨hn, bg_s_ext hs⟩, hM, q_same.rf⟩
    intro o ho
    rcases List.mem_cons.mp ho with rfl | ho
    · exact ⟨j, b_is_ext hj, hn⟩
    · exact bg_O_ext (hE.2.2.2.1 o ho)
theorem bg_X0 {x : b_X} {st : List Value} {m1 : q_M} {res : Option (List Value × q_M)} (hr : res = some (st, m1)) (hE : bg_E F v x.1 m1) (hs : bg_s v x.2 st) (hM : bi_M I m1) (hw : q_same W m m1) : bg_X I W F v m [x] res :=
  ⟨x, List.mem_singleton.mpr rfl, [], st, m1, hr, by simpa using hE, by simpa using hs, hM, hw⟩
theorem b_refs_ok {x : b_T} {r : List b_V} (hE : bg_E F v E m) (hM : bi_M I m) {st : List Value} (hs : bg_s v r st) {j : Int32} (hj : b_is v x j.toInt) : ∀ (cs : List Nat) (k : Int) (n : Nat) (c : Nat), cs[n]? = some c → j.toInt = k + n → ∀ {res : Option (List Value × q_M)}, res = some (.ref c :: st, m) → bg_X I W F v m (b_refs E x r k cs) res
  | [], k, n, c, hc, _, res, hr => by simp at hc
  | d :: cs, k, 0, c, hc, hk, res, hr => by
    simp at hc
    subst hc
    unfold b_refs
    obtain ⟨q, a1, a2, a3⟩ := b_cmp_ok (c := .eq) hE.2.1 hE.2.2.1 hj (b_is_c k) (by show j.toInt = k; omega)
    exact ⟨_, List.mem_append_left _ (List.mem_map.mpr ⟨q, a1, rfl⟩), [], _, m, hr, by simpa using ⟨hE.1, a2, a3, hE.2.2.2⟩, by simpa using ⟨rfl, hs⟩, hM, q_same.rf⟩
  | d :: cs, k, n + 1, c, hc, hk, res, hr => by
    simp at hc
    unfold b_refs
    obtain ⟨y, h1, h2⟩ := b_refs_ok hE hM hs hj cs (k + 1) n c hc (by omega) hr
    exact ⟨y, List.mem_append_right _ h1, h2⟩
end BMEM

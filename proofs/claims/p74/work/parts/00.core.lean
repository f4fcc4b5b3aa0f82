/-! THE PURE MACHINE: cells by their number, a step as a function; refs are numbers of cells -/
abbrev q_A : Type := Nat × Nat × ((Nat → Int32) ⊕ (Nat → Int64) ⊕ (Nat → Option Nat))
abbrev q_E : Type := q_A ⊕ (Nat × List Value)
abbrev q_M : Type := List q_E
abbrev q_L : Type := List (Nat × Value)
def q_sz (x : q_E) : Nat := match x with
  | .inl (_, n, _) => n
  | .inr (_, fs) => fs.length
def q_sl (m : q_M) : Nat := (m.map q_sz).sum
/-- locals -/
def q_get (l : q_L) (k : Nat) : Option Value := match l with
  | [] => none
  | q :: l => if q.1 = k then some q.2 else q_get l k
theorem q_get_mem : ∀ {l : q_L} {k : Nat} {v : Value}, q_get l k = some v → (k, v) ∈ l
  | [], k, v, h => by simp [q_get] at h
  | q :: l, k, v, h => by
    unfold q_get at h
    by_cases hk : q.1 = k
    · rw [if_pos hk] at h
      cases h
      subst hk
      exact List.mem_cons_self
    · rw [if_neg hk] at h
      exact List.mem_cons_of_mem _ (q_get_mem h)
def q_s1 (l : q_L) (i : Nat) (v : Value) : q_L := (i, v) :: l.filter (fun q => !(q.1 == i) && !(q.1 + 1 == i && q.2.category == 2))
def q_s2 (l : q_L) (i : Nat) (v : Value) : q_L := (i, v) :: l.filter (fun q => !(q.1 == i) && (!(q.1 == i + 1) && !(q.1 + 1 == i && q.2.category == 2)))
def q_in (i : Int32) (n : Nat) : Bool := !(decide (i < 0)) && decide (i.toNatClampNeg < n)
def q_c (c : Jvm.ClassFile.Cond) (x y : Int32) : Bool := match c with
  | .eq => decide (x = y)
  | .ne => decide (¬ x = y)
  | .lt => decide (x < y)
  | .ge => decide (y ≤ x)
  | .gt => decide (y < x)
  | .le => decide (x ≤ y)
def q_to (pc : Nat) (off : Int) (l : q_L) (st : List Value) : Option (Nat × q_L × List Value) := if 0 ≤ (pc : Int) + off then some (((pc : Int) + off).toNat, l, st) else none
def q_br (pc len : Nat) (off : Int) (b : Bool) (l : q_L) (st : List Value) : Option (Nat × q_L × List Value) := if 0 ≤ (pc : Int) + off then some (if b = true then ((pc : Int) + off).toNat else pc + len, l, st) else none
/-- a step that leaves the memory alone -/
def q_pure (nL pc len : Nat) (i : Instr) (l : q_L) (st : List Value) : Option (Nat × q_L × List Value) := match i with
  | .iconst n => some (pc + len, l, .int (Int32.ofInt n) :: st)
  | .goto_w n => some (pc + len, l, .long (Int64.ofInt n) :: st)
  | .iload k => (match q_get l k with | some (.int x) => some (pc + len, l, .int x :: st) | _ => none)
  | .lload k => (match q_get l k with | some (.long x) => some (pc + len, l, .long x :: st) | _ => none)
  | .aload k => (match q_get l k with | some (.ref x) => some (pc + len, l, .ref x :: st) | some (.retAddr x) => some (pc + len, l, .retAddr x :: st) | _ => none)
  | .istore k => (match st with | .int x :: r => if k < nL then some (pc + len, q_s1 l k (.int x), r) else none | _ => none)
  | .astore k => (match st with | .ref x :: r => if k < nL then some (pc + len, q_s1 l k (.ref x), r) else none | _ => none)
  | .lstore k => (match st with | .long x :: r => if k + 1 < nL then some (pc + len, q_s2 l k (.long x), r) else none | _ => none)
  | .iinc k n => (match q_get l k with | some (.int x) => if k < nL then some (pc + len, q_s1 l k (.int (x + Int32.ofInt n)), st) else none | _ => none)
  | .iadd => (match st with | .int y :: .int x :: r => some (pc + len, l, .int (x + y) :: r) | _ => none)
  | .isub => (match st with | .int y :: .int x :: r => some (pc + len, l, .int (x - y) :: r) | _ => none)
  | .imul => (match st with | .int y :: .int x :: r => some (pc + len, l, .int (x * y) :: r) | _ => none)
  | .iand => (match st with | .int y :: .int x :: r => some (pc + len, l, .int (x &&& y) :: r) | _ => none)
  | .ior => (match st with | .int y :: .int x :: r => some (pc + len, l, .int (x ||| y) :: r) | _ => none)
  | .ixor => (match st with | .int y :: .int x :: r => some (pc + len, l, .int (x ^^^ y) :: r) | _ => none)
  | .ishl => (match st with | .int y :: .int x :: r => some (pc + len, l, .int (x <<< (y &&& 31)) :: r) | _ => none)
  | .ishr => (match st with | .int y :: .int x :: r => some (pc + len, l, .int (x >>> (y &&& 31)) :: r) | _ => none)
  | .iushr => (match st with | .int y :: .int x :: r => some (pc + len, l, .int ((x.toUInt32 >>> (y.toUInt32 &&& Int32.toUInt32 31)).toInt32) :: r) | _ => none)
  | .ladd => (match st with | .long y :: .long x :: r => some (pc + len, l, .long (x + y) :: r) | _ => none)
  | .lsub => (match st with | .long y :: .long x :: r => some (pc + len, l, .long (x - y) :: r) | _ => none)
  | .lmul => (match st with | .long y :: .long x :: r => some (pc + len, l, .long (x * y) :: r) | _ => none)
  | .land => (match st with | .long y :: .long x :: r => some (pc + len, l, .long (x &&& y) :: r) | _ => none)
  | .lor => (match st with | .long y :: .long x :: r => some (pc + len, l, .long (x ||| y) :: r) | _ => none)
  | .lxor => (match st with | .long y :: .long x :: r => some (pc + len, l, .long (x ^^^ y) :: r) | _ => none)
  | .idiv => (match st with | .int y :: .int x :: r => if y = 0 then none else some (pc + len, l, .int (x / y) :: r) | _ => none)
  | .irem => (match st with | .int y :: .int x :: r => if y = 0 then none else some (pc + len, l, .int (x - x / y * y) :: r) | _ => none)
  | .ldiv => (match st with | .long y :: .long x :: r => if y = 0 then none else some (pc + len, l, .long (x / y) :: r) | _ => none)
  | .lrem => (match st with | .long y :: .long x :: r => if y = 0 then none else some (pc + len, l, .long (x - x / y * y) :: r) | _ => none)
  | .lshl => (match st with | .int y :: .long x :: r => some (pc + len, l, .long (x <<< (y.toInt64 &&& 63)) :: r) | _ => none)
  | .lshr => (match st with | .int y :: .long x :: r => some (pc + len, l, .long (x >>> (y.toInt64 &&& 63)) :: r) | _ => none)
  | .lushr => (match st with | .int y :: .long x :: r => some (pc + len, l, .long ((x.toUInt64 >>> (y.toInt64.toUInt64 &&& Int64.toUInt64 63)).toInt64) :: r) | _ => none)
  | .i2l => (match st with | .int x :: r => some (pc + len, l, .long (x.toInt64) :: r) | _ => none)
  | .l2i => (match st with | .long x :: r => some (pc + len, l, .int (x.toInt32) :: r) | _ => none)
  | .i2b => (match st with | .int x :: r => some (pc + len, l, .int (x.toInt8.toInt32) :: r) | _ => none)
  | .i2s => (match st with | .int x :: r => some (pc + len, l, .int (x.toInt16.toInt32) :: r) | _ => none)
  | .i2c => (match st with | .int x :: r => some (pc + len, l, .int ((x.toUInt32 % 65536).toInt32) :: r) | _ => none)
  | .ineg => (match st with | .int x :: r => some (pc + len, l, .int (-x) :: r) | _ => none)
  | .lneg => (match st with | .long x :: r => some (pc + len, l, .long (-x) :: r) | _ => none)
  | .lcmp => (match st with | .long y :: .long x :: r => some (pc + len, l, .int (lg_cmp x y) :: r) | _ => none)
  | .dup => (match st with | v :: r => if v.category = 1 then some (pc + len, l, v :: v :: r) else none | _ => none)
  | .pop => (match st with | v :: r => if v.category = 1 then some (pc + len, l, r) else none | _ => none)
  | .dup2 => (match st with | a :: r => if a.category = 2 then some (pc + len, l, a :: a :: r) else (match r with | b :: r => if a.category = 1 ∧ b.category = 1 then some (pc + len, l, a :: b :: a :: b :: r) else none | _ => none) | _ => none)
  | .pop2 => (match st with | a :: r => if a.category = 2 then some (pc + len, l, r) else none | _ => none)
  | .ifCond c off => (match st with | .int x :: r => q_br pc len off (q_c c x 0) l r | _ => none)
  | .if_icmp c off => (match st with | .int y :: .int x :: r => q_br pc len off (q_c c x y) l r | _ => none)
  | .goto off => q_to pc off l st
  | .tableswitch d lo hi offs => (match st with | .int x :: r => if x.toInt < lo ∨ hi < x.toInt then q_to pc d l r else (match offs[(x.toInt - lo).toNat]? with | some off => q_to pc off l r | none => none) | _ => none)
  | .lookupswitch d ps => (match st with | .int x :: r => if (ps.toList.zip (ps.toList.drop 1)).all (fun (a, next) => a.1 < next.1) = true then q_to pc (Op.lookupswitch.offset ps.toList d x.toInt) l r else none | _ => none)
  | _ => none
abbrev q_I : Type := Nat × Instr × Nat × Instr × Nat
abbrev q_MI : Type := MethodName × ByteArray × Nat × Option FieldType × List q_I × (Nat × Nat × Nat × Nat) × (Nat × Nat × Nat × Nat)
/-- a text constant: whose, its number, the text, its bytes -/
abbrev q_Sx : Type := String × Nat × String × List Int32
abbrev q_G : Type := List (List Cond) × List vw_C × (Nat → Nat → FieldType) × List FieldType × List q_MI × List (String × Nat × MethodName × String) × List q_Sx
def q_gT (G : q_G) : List (List Cond) := G.1
def q_tat (G : q_G) (pos : Nat) : Option Cond := match (q_gT G)[pos / 1000]? with
  | some l => l[pos % 1000]?
  | none => none
def q_gC (G : q_G) : List vw_C := G.2.1
def q_gY (G : q_G) : Nat → Nat → FieldType := G.2.2.1
def q_gA (G : q_G) : List FieldType := G.2.2.2.1
def q_gM (G : q_G) : List q_MI := G.2.2.2.2.1
def q_gN (G : q_G) : List (String × Nat × MethodName × String) := G.2.2.2.2.2.1
def q_gS (G : q_G) : List q_Sx := G.2.2.2.2.2.2
def q_T (G : q_G) : List Cond := (q_gT G).flatten.filter goodWord
theorem q_T_at {G : q_G} {pos : Nat} {w : Cond} (h : q_tat G pos = some w) (hg : goodWord w = true) : w ∈ q_T G := by
  unfold q_tat at h
  split at h
  · rename_i l hl
    exact List.mem_filter.mpr ⟨List.mem_flatten.mpr ⟨l, List.mem_of_getElem? hl, List.mem_of_getElem? h⟩, hg⟩
  · cases h
def q_tag (a : ArrayType) : Nat := match a with
  | .int => 0
  | .long => 1
  | .byte => 2
  | .boolean => 3
  | _ => 99
def q_cats (r : List Value) : Nat := (r.map fun v => v.category).sum
def q_cpy (r : List Value) (m : q_M) (j k sp dp w : Nat) : Option (List Value × q_M) := match m[j]?, m[k]? with
  | some (.inl (t0, n0, .inl f)), some (.inl (t1, n1, .inl g)) => if t0 = 0 ∧ t1 = 0 ∧ sp + w ≤ n0 ∧ dp + w ≤ n1 then some (r, m.set k (.inl (t1, n1, .inl (va_cpy f g sp dp w)))) else none
  | some (.inl (t0, n0, .inr (.inl f))), some (.inl (t1, n1, .inr (.inl g))) => if t0 = 1 ∧ t1 = 1 ∧ sp + w ≤ n0 ∧ dp + w ≤ n1 then some (r, m.set k (.inl (t1, n1, .inr (.inl (va_cpy f g sp dp w))))) else none
  | _, _ => none
def q_copy (fr lo : Nat) (st : List Value) (m : q_M) : Option (List Value × q_M) := match st with
  | .int w :: .int dp :: .ref k :: .int sp :: .ref j :: r => if 1 ≤ fr ∧ q_cats r + 18 ≤ lo ∧ ¬ sp < 0 ∧ ¬ dp < 0 ∧ ¬ w < 0 then q_cpy r m j k sp.toNatClampNeg dp.toNatClampNeg w.toNatClampNeg else none
  | _ => none
/-- reading and writing cells: the stack and the memory behind it -/
def q_mem (G : q_G) (fr lo : Nat) (i : Instr) (st : List Value) (m : q_M) : Option (List Value × q_M) := match i with
  | .getfield n => (match st with | .ref k :: r => (match m[k]? with | some (.inr (ci, fs)) => if ci = n / 64 then (match fs[n % 64]? with | some v => some (v :: r, m) | none => none) else none | _ => none) | _ => none)
  | .putfield n => (match st with | v :: .ref k :: r => (match m[k]? with | some (.inr (ci, fs)) => if ci = n / 64 ∧ n % 64 < fs.length ∧ narrow (q_gY G ci (n % 64)) v = v ∧ fits (q_gY G ci (n % 64)) v = true then some (r, m.set k (.inr (ci, fs.set (n % 64) v))) else none | _ => none) | _ => none)
  | .iaload => (match st with | .int j :: .ref k :: r => (match m[k]? with | some (.inl (t, n, .inl f)) => if t = 0 ∧ q_in j n = true then some (.int (f j.toNatClampNeg) :: r, m) else none | _ => none) | _ => none)
  | .laload => (match st with | .int j :: .ref k :: r => (match m[k]? with | some (.inl (t, n, .inr (.inl f))) => if t = 1 ∧ q_in j n = true then some (.long (f j.toNatClampNeg) :: r, m) else none | _ => none) | _ => none)
  | .baload => (match st with | .int j :: .ref k :: r => (match m[k]? with | some (.inl (t, n, .inl f)) => if (t = 2 ∨ t = 3) ∧ q_in j n = true then some (.int (f j.toNatClampNeg) :: r, m) else none | _ => none) | _ => none)
  | .aaload => (match st with | .int j :: .ref k :: r => (match m[k]? with | some (.inl (t, n, .inr (.inr f))) => if 4 ≤ t ∧ q_in j n = true ∧ t < (q_gA G).length then some (va_rf (f j.toNatClampNeg) :: r, m) else none | _ => none) | _ => none)
  | .iastore => (match st with | .int x :: .int j :: .ref k :: r => (match m[k]? with | some (.inl (t, n, .inl f)) => if t = 0 ∧ q_in j n = true then some (r, m.set k (.inl (t, n, .inl (upd f j.toNatClampNeg x)))) else none | _ => none) | _ => none)
  | .lastore => (match st with | .long x :: .int j :: .ref k :: r => (match m[k]? with | some (.inl (t, n, .inr (.inl f))) => if t = 1 ∧ q_in j n = true then some (r, m.set k (.inl (t, n, .inr (.inl (vp_updL f j.toNatClampNeg x))))) else none | _ => none) | _ => none)
  | .bastore => (match st with | .int x :: .int j :: .ref k :: r => (match m[k]? with | some (.inl (t, n, .inl f)) => if t = 2 ∧ q_in j n = true then some (r, m.set k (.inl (t, n, .inl (upd f j.toNatClampNeg (vp_nar .byte x))))) else if t = 3 ∧ q_in j n = true then some (r, m.set k (.inl (t, n, .inl (upd f j.toNatClampNeg (vp_nar .boolean x))))) else none | _ => none) | _ => none)
  | .aastore => (match st with | .ref v :: .int j :: .ref k :: r => (match m[k]? with | some (.inl (t, n, .inr (.inr f))) => (match m[v]? with | some (.inr (ci, _)) => if 4 ≤ t ∧ q_in j n = true ∧ ((q_gC G)[ci]?.map fun z => FieldType.object z.1) = (q_gA G)[t]? ∧ ((q_gA G)[t]?).isSome = true then some (r, m.set k (.inl (t, n, .inr (.inr (va_up f j.toNatClampNeg (some v)))))) else none | _ => none) | _ => none) | _ => none)
  | .arraylength => (match st with | .ref k :: r => (match m[k]? with | some (.inl (t, n, _)) => if t < (q_gA G).length then some (.int (Int32.ofNat n) :: r, m) else none | _ => none) | _ => none)
  | .invokedynamic n => if n = 0 then (match st with | .ref _ :: r => if 1 ≤ fr ∧ q_cats r + 12 ≤ lo then some (r, m) else none | _ => none)
      else if n = 1 then q_copy fr lo st m
      else if n = 2 then (match st with | .retAddr (a + 1) :: r => (match (q_gS G)[a]? with | some x => if 5 ≤ fr ∧ q_cats r ≤ 8 ∧ 120 ≤ lo then some (.int (Int32.ofNat x.2.2.2.length) :: r, m) else none | none => none) | _ => none)
      else if n = 3 then (match st with | .int j :: .retAddr (a + 1) :: r => (match (q_gS G)[a]? with | some x => if 5 ≤ fr ∧ q_cats r ≤ 8 ∧ 120 ≤ lo ∧ q_in j x.2.2.2.length = true then some (.int (x.2.2.2.getD j.toNatClampNeg 0 &&& 255) :: r, m) else none | none => none) | _ => none)
      else none
  | _ => none
/-- making cells: the stack, and the new cell -/
def q_new (G : q_G) (i : Instr) (st : List Value) (m : q_M) : Option (List Value × q_E) := match i with
  | .new ci => (match (q_gC G)[ci]? with | some (_, _, N) => some (.ref m.length :: st, .inr (ci, (List.range N).map (fun k => defaultValue (q_gY G ci k)))) | none => none)
  | .newarray a => (match st with | .int w :: r => if ¬ w < 0 ∧ w.toNatClampNeg ≤ 60000000 ∧ q_tag a < 4 then some (.ref m.length :: r, .inl (q_tag a, w.toNatClampNeg, if a = .long then .inr (.inl (fun _ => 0)) else .inl (fun _ => 0))) else none | _ => none)
  | .anewarray t => (match st with | .int w :: r => if ¬ w < 0 ∧ w.toNatClampNeg ≤ 60000000 then some (.ref m.length :: r, .inl (t, w.toNatClampNeg, .inr (.inr (fun _ => none)))) else none | _ => none)
  | _ => none
def q_lk (i : Instr) (st : List Value) : Option (List Value) := match i with
  | .sipush n => some (.int (Int32.ofInt n) :: st)
  | .jsr_w n => some (.long (Int64.ofInt n) :: st)
  | .ldc n => some (.retAddr (n + 1) :: st)
  | _ => none
/-- what kind of step: 0 pure, 1 memory, 2 a new cell, 3 call or return, 4 a constant out of the pool -/
def q_grp (i : Instr) : Nat := match i with
  | .getfield _ => 1
  | .putfield _ => 1
  | .iaload => 1
  | .laload => 1
  | .baload => 1
  | .aaload => 1
  | .iastore => 1
  | .lastore => 1
  | .bastore => 1
  | .aastore => 1
  | .arraylength => 1
  | .invokedynamic _ => 1
  | .new _ => 2
  | .newarray _ => 2
  | .anewarray _ => 2
  | .ireturn => 3
  | .lreturn => 3
  | .return_ => 3
  | .invokevirtual _ => 3
  | .invokestatic _ => 3
  | .invokespecial _ => 3
  | .sipush _ => 4
  | .jsr_w _ => 4
  | .ldc _ => 4
  | _ => 0
def q_mY (M : q_MI) : MethodName := M.1
def q_mB (M : q_MI) : ByteArray := M.2.1
def q_mL (M : q_MI) : Nat := M.2.2.1
def q_mR (M : q_MI) : Option FieldType := M.2.2.2.1
def q_mC (M : q_MI) : List q_I := M.2.2.2.2.1
def q_mF (M : q_MI) : Nat := M.2.2.2.2.2.1.1
def q_mO (M : q_MI) : Nat := M.2.2.2.2.2.1.2.1
def q_mN (M : q_MI) : Nat := M.2.2.2.2.2.1.2.2.1
def q_mK (M : q_MI) : Nat := M.2.2.2.2.2.1.2.2.2
def q_mP (M : q_MI) : Nat × Nat × Nat × Nat := M.2.2.2.2.2.2
def q_fd (C : List q_I) (pc : Nat) : Option q_I := match C with
  | [] => none
  | I :: C => if I.1 = pc then some I else q_fd C pc
theorem q_fd_mem : ∀ {C : List q_I} {pc : Nat} {I : q_I}, q_fd C pc = some I → I ∈ C ∧ I.1 = pc
  | [], pc, I, h => by simp [q_fd] at h
  | J :: C, pc, I, h => by
    unfold q_fd at h
    split at h
    · cases h
      exact ⟨List.mem_cons_self, by assumption⟩
    · exact ⟨List.mem_cons_of_mem _ (q_fd_mem h).1, (q_fd_mem h).2⟩
def q_na (M : q_MI) : Nat := match q_mK M with
  | 1 => q_mN M
  | _ => q_mN M + 1
def q_rcv (G : q_G) (M : q_MI) (as : List Value) (m : q_M) : Bool := match q_mK M with
  | 1 => true
  | 0 => (match as with | .ref a :: _ => (match m[a]? with | some (.inr (ci, _)) => decide ((q_gC G)[ci]?.map (fun z => z.1) = some (q_mY M).cls) | _ => false) | _ => false)
  | _ => (match as with | .ref _ :: _ => true | _ => false)
/-- a call: the method, its arguments (the object first), what stays on the stack -/
def q_call (G : q_G) (M : q_MI) (k : Nat) (st : List Value) (m : q_M) : Option (q_MI × List Value × List Value) := match (q_gM G)[k]? with
  | none => none
  | some M1 => if q_na M1 ≤ st.length ∧ q_cats (st.drop (q_na M1)) ≤ 8 ∧ q_mF M1 + 1 ≤ q_mF M ∧ 8 + (q_mL M1 + 11) + q_mO M1 ≤ q_mO M ∧ q_cats (st.take (q_na M1)) ≤ q_mL M1 ∧ q_rcv G M1 (st.take (q_na M1)).reverse m = true
    then some (M1, (st.take (q_na M1)).reverse, st.drop (q_na M1)) else none
/-- what a method gives back, by its last instruction -/
def q_retn (M : q_MI) (i : Instr) (st : List Value) : Option (Option Value) := match i with
  | .ireturn => (match st with | [.int v] => (match q_mR M with | some ty => if narrow ty (.int v) = .int v then some (some (.int v)) else none | none => none) | _ => none)
  | .lreturn => (match st with | [.long v] => if q_mR M = some .long then some (some (.long v)) else none | _ => none)
  | .return_ => (match st with | [] => if q_mR M = none then some none else none | _ => none)
  | _ => none
def q_cnum (i : Instr) : Option Nat := match i with
  | .invokevirtual k => some k
  | .invokestatic k => some k
  | .invokespecial k => some k
  | _ => none
/-- the pure machine: n steps at most, calls and all -/
def q_run (G : q_G) : Nat → q_MI → Nat → q_L → List Value → q_M → Option (Option Value × q_M)
  | 0, _, _, _, _, _ => none
  | n + 1, M, pc, l, st, m => match q_fd (q_mC M) pc with
    | none => none
    | some (_, _, len, i, _) => match q_grp i with
      | 0 => (match q_pure (q_mL M) pc len i l st with | some (pc1, l1, st1) => q_run G n M pc1 l1 st1 m | none => none)
      | 1 => (match q_mem G (q_mF M) (q_mO M) i st m with | some (st1, m1) => q_run G n M (pc + len) l st1 m1 | none => none)
      | 2 => (match q_new G i st m with | some (st1, x) => q_run G n M (pc + len) l st1 (m ++ [x]) | none => none)
      | 3 => (match q_cnum i with
          | some k => (match q_call G M k st m with
              | some (M1, as, rest) => (match q_run G n M1 0 (lv_args 0 as) [] m with | some (r, m1) => q_run G n M (pc + len) l (r.toList ++ rest) m1 | none => none)
              | none => none)
          | none => (match q_retn M i st with | some r => some (r, m) | none => none))
      | _ => (match q_lk i st with | some st1 => q_run G n M (pc + len) l st1 m | none => none)
def q_scr (b L : Nat) (xs : Nat → Int32) (i : Instr) (st : List Value) : Option (List Value) := match i with
  | .iaload => (match st with | .int j :: .retAddr a :: r => if a = b ∧ q_in j L = true then some (.int (xs j.toNatClampNeg) :: r) else none | _ => none)
  | .arraylength => (match st with | .retAddr a :: r => if a = b then some (.int (Int32.ofNat L) :: r) else none | _ => none)
  | _ => none
/-- the law, purely: its answer and the memory -/
def q_lrun (G : q_G) (b L : Nat) (xs : Nat → Int32) (M : q_MI) : Nat → Nat → q_L → List Value → q_M → Option (Int32 × q_M)
  | 0, _, _, _, _ => none
  | n + 1, pc, l, st, m => match q_fd (q_mC M) pc with
    | none => none
    | some (_, _, len, i, _) => match q_grp i with
      | 0 => (match q_pure (q_mL M) pc len i l st with | some (pc1, l1, st1) => q_lrun G b L xs M n pc1 l1 st1 m | none => none)
      | 1 => (match q_scr b L xs i st with | some st1 => q_lrun G b L xs M n (pc + len) l st1 m | none => none)
      | 2 => (match q_new G i st m with | some (st1, x) => q_lrun G b L xs M n (pc + len) l st1 (m ++ [x]) | none => none)
      | 3 => (match q_cnum i with
          | some k => (match q_call G M k st m with
              | some (M1, as, rest) => (match q_run G n M1 0 (lv_args 0 as) [] m with | some (r, m1) => q_lrun G b L xs M n (pc + len) l (r.toList ++ rest) m1 | none => none)
              | none => none)
          | none => (match i, st with | .ireturn, [.int v] => some (v, m) | _, _ => none))
      | _ => (match q_lk i st with | some st1 => q_lrun G b L xs M n (pc + len) l st1 m | none => none)

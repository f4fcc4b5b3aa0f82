/-! THE PROGRAM's DATA: the tables' words, the classes, the arrays' types, the methods, the links to private members of nest mates -/
abbrev q_I : Type := Nat × Instr × Nat × Instr × Nat
abbrev q_MI : Type := MethodName × ByteArray × Nat × Option FieldType × List q_I × (Nat × Nat × Nat × Nat) × (Nat × Nat × Nat × Nat)
/-- a text constant: whose, its number, the text, its bytes -/
abbrev q_Sx : Type := String × Nat × String × List Int32
abbrev q_G : Type := List (List Cond) × List vw_C × (Nat → Nat → FieldType) × List FieldType × List q_MI × List (String × Nat × MethodName × String) × List q_Sx
def q_gT (G : q_G) : List (List Cond) := G.1
def q_tat (G : q_G) (pos : Nat) : Option Cond := match (q_gT G)[pos / 1000]? with
  | some l => l[pos % 1000]?
  | none => none
def q_gC (G : q_G) : List vw_C := G.2.1
def q_gY (G : q_G) : Nat → Nat → FieldType := G.2.2.1
def q_gA (G : q_G) : List FieldType := G.2.2.2.1
def q_gM (G : q_G) : List q_MI := G.2.2.2.2.1
def q_gN (G : q_G) : List (String × Nat × MethodName × String) := G.2.2.2.2.2.1
def q_gS (G : q_G) : List q_Sx := G.2.2.2.2.2.2
def q_T (G : q_G) : List Cond := (q_gT G).flatten.filter goodWord
theorem q_T_at {G : q_G} {pos : Nat} {w : Cond} (h : q_tat G pos = some w) (hg : goodWord w = true) : w ∈ q_T G := by
  unfold q_tat at h
  split at h
  · rename_i l hl
    exact List.mem_filter.mpr ⟨List.mem_flatten.mpr ⟨l, List.mem_of_getElem? hl, List.mem_of_getElem? h⟩, hg⟩
  · cases h
def q_tyl (G : q_G) (tc : Nat → ClassId) : List (ClassId × FieldType) := (q_gA G).mapIdx (fun t ty => (tc t, ty))
theorem q_tyl_get {G : q_G} {tc : Nat → ClassId} {t : Nat} {ty : FieldType} (h : (q_gA G)[t]? = some ty) : (q_tyl G tc)[t]? = some (tc t, ty) := by simp [q_tyl, h]
def q_sys : List Cond := [.native arraycopyName, .static arraycopyName, .initialized "java/lang/System", .instanceMethod Lib.objectInit, .code Lib.objectInit ⟨#[0xb1]⟩ 1 none]
def q_GV (G : q_G) : Prop := (∀ (ci : Nat) (C : String) (T : u_T) (N : Nat), (q_gC G)[ci]? = some (C, T, N) → (∀ w ∈ u_ws C T N, w ∈ q_T G) ∧ (∀ k, k < N → parseFieldDescriptor (T k).2.2.1 = some (q_gY G ci k)) ∧ (∀ a, a < N → ∀ b, b < N → a ≠ b → (T a).2.1 ≠ (T b).2.1) ∧ Cond.instantiable C N ∈ q_T G ∧ Cond.initialized C ∈ q_T G) ∧ (∀ w ∈ q_sys, w ∈ q_T G)
def q_tag (a : ArrayType) : Nat := match a with
  | .int => 0
  | .long => 1
  | .byte => 2
  | .boolean => 3
  | _ => 99
def q_cats (r : List Value) : Nat := (r.map fun v => v.category).sum
theorem q_cats_cv (bs : Nat) (r : List Value) : ((r.map (q_cv bs)).map fun v => v.category).sum = q_cats r := by
  simp only [q_cats, List.map_map]
  congr 1
  apply List.map_congr_left
  intro v _
  exact q_cv_cat bs v
def q_cpy (r : List Value) (m : q_M) (j k sp dp w : Nat) : Option (List Value × q_M) := match m[j]?, m[k]? with
  | some (.inl (t0, n0, .inl f)), some (.inl (t1, n1, .inl g)) => if t0 = 0 ∧ t1 = 0 ∧ sp + w ≤ n0 ∧ dp + w ≤ n1 then some (r, m.set k (.inl (t1, n1, .inl (va_cpy f g sp dp w)))) else none
  | some (.inl (t0, n0, .inr (.inl f))), some (.inl (t1, n1, .inr (.inl g))) => if t0 = 1 ∧ t1 = 1 ∧ sp + w ≤ n0 ∧ dp + w ≤ n1 then some (r, m.set k (.inl (t1, n1, .inr (.inl (va_cpy f g sp dp w))))) else none
  | _, _ => none
def q_copy (fr lo : Nat) (st : List Value) (m : q_M) : Option (List Value × q_M) := match st with
  | .int w :: .int dp :: .ref k :: .int sp :: .ref j :: r => if 1 ≤ fr ∧ q_cats r + 18 ≤ lo ∧ ¬ sp < 0 ∧ ¬ dp < 0 ∧ ¬ w < 0 then q_cpy r m j k sp.toNatClampNeg dp.toNatClampNeg w.toNatClampNeg else none
  | _ => none
/-- reading and writing cells: the stack and the memory behind it -/
def q_mem (G : q_G) (fr lo : Nat) (i : Instr) (st : List Value) (m : q_M) : Option (List Value × q_M) := match i with
  | .getfield n => (match st with | .ref k :: r => (match m[k]? with | some (.inr (ci, fs)) => if ci = n / 64 then (match fs[n % 64]? with | some v => some (v :: r, m) | none => none) else none | _ => none) | _ => none)
  | .putfield n => (match st with | v :: .ref k :: r => (match m[k]? with | some (.inr (ci, fs)) => if ci = n / 64 ∧ n % 64 < fs.length ∧ narrow (q_gY G ci (n % 64)) v = v ∧ fits (q_gY G ci (n % 64)) v = true then some (r, m.set k (.inr (ci, fs.set (n % 64) v))) else none | _ => none) | _ => none)
  | .iaload => (match st with | .int j :: .ref k :: r => (match m[k]? with | some (.inl (t, n, .inl f)) => if t = 0 ∧ q_in j n = true then some (.int (f j.toNatClampNeg) :: r, m) else none | _ => none) | _ => none)
  | .laload => (match st with | .int j :: .ref k :: r => (match m[k]? with | some (.inl (t, n, .inr (.inl f))) => if t = 1 ∧ q_in j n = true then some (.long (f j.toNatClampNeg) :: r, m) else none | _ => none) | _ => none)
  | .baload => (match st with | .int j :: .ref k :: r => (match m[k]? with | some (.inl (t, n, .inl f)) => if (t = 2 ∨ t = 3) ∧ q_in j n = true then some (.int (f j.toNatClampNeg) :: r, m) else none | _ => none) | _ => none)
  | .aaload => (match st with | .int j :: .ref k :: r => (match m[k]? with | some (.inl (t, n, .inr (.inr f))) => if 4 ≤ t ∧ q_in j n = true ∧ t < (q_gA G).length then some (va_rf (f j.toNatClampNeg) :: r, m) else none | _ => none) | _ => none)
  | .iastore => (match st with | .int x :: .int j :: .ref k :: r => (match m[k]? with | some (.inl (t, n, .inl f)) => if t = 0 ∧ q_in j n = true then some (r, m.set k (.inl (t, n, .inl (upd f j.toNatClampNeg x)))) else none | _ => none) | _ => none)
  | .lastore => (match st with | .long x :: .int j :: .ref k :: r => (match m[k]? with | some (.inl (t, n, .inr (.inl f))) => if t = 1 ∧ q_in j n = true then some (r, m.set k (.inl (t, n, .inr (.inl (vp_updL f j.toNatClampNeg x))))) else none | _ => none) | _ => none)
  | .bastore => (match st with | .int x :: .int j :: .ref k :: r => (match m[k]? with | some (.inl (t, n, .inl f)) => if t = 2 ∧ q_in j n = true then some (r, m.set k (.inl (t, n, .inl (upd f j.toNatClampNeg (vp_nar .byte x))))) else if t = 3 ∧ q_in j n = true then some (r, m.set k (.inl (t, n, .inl (upd f j.toNatClampNeg (vp_nar .boolean x))))) else none | _ => none) | _ => none)
  | .aastore => (match st with | .ref v :: .int j :: .ref k :: r => (match m[k]? with | some (.inl (t, n, .inr (.inr f))) => (match m[v]? with | some (.inr (ci, _)) => if 4 ≤ t ∧ q_in j n = true ∧ ((q_gC G)[ci]?.map fun z => FieldType.object z.1) = (q_gA G)[t]? ∧ ((q_gA G)[t]?).isSome = true then some (r, m.set k (.inl (t, n, .inr (.inr (va_up f j.toNatClampNeg (some v)))))) else none | _ => none) | _ => none) | _ => none)
  | .arraylength => (match st with | .ref k :: r => (match m[k]? with | some (.inl (t, n, _)) => if t < (q_gA G).length then some (.int (Int32.ofNat n) :: r, m) else none | _ => none) | _ => none)
  | .invokedynamic n => if n = 0 then (match st with | .ref _ :: r => if 1 ≤ fr ∧ q_cats r + 12 ≤ lo then some (r, m) else none | _ => none)
      else if n = 1 then q_copy fr lo st m
      else if n = 2 then (match st with | .retAddr (a + 1) :: r => (match (q_gS G)[a]? with | some x => if 5 ≤ fr ∧ q_cats r ≤ 8 ∧ 120 ≤ lo then some (.int (Int32.ofNat x.2.2.2.length) :: r, m) else none | none => none) | _ => none)
      else if n = 3 then (match st with | .int j :: .retAddr (a + 1) :: r => (match (q_gS G)[a]? with | some x => if 5 ≤ fr ∧ q_cats r ≤ 8 ∧ 120 ≤ lo ∧ q_in j x.2.2.2.length = true then some (.int (x.2.2.2.getD j.toNatClampNeg 0 &&& 255) :: r, m) else none | none => none) | _ => none)
      else none
  | _ => none
/-- making cells: the stack, and the new cell -/
def q_new (G : q_G) (i : Instr) (st : List Value) (m : q_M) : Option (List Value × q_E) := match i with
  | .new ci => (match (q_gC G)[ci]? with | some (_, _, N) => some (.ref m.length :: st, .inr (ci, (List.range N).map (fun k => defaultValue (q_gY G ci k)))) | none => none)
  | .newarray a => (match st with | .int w :: r => if ¬ w < 0 ∧ w.toNatClampNeg ≤ 60000000 ∧ q_tag a < 4 then some (.ref m.length :: r, .inl (q_tag a, w.toNatClampNeg, if a = .long then .inr (.inl (fun _ => 0)) else .inl (fun _ => 0))) else none | _ => none)
  | .anewarray t => (match st with | .int w :: r => if ¬ w < 0 ∧ w.toNatClampNeg ≤ 60000000 then some (.ref m.length :: r, .inl (t, w.toNatClampNeg, .inr (.inr (fun _ => none)))) else none | _ => none)
  | _ => none
def q_sLen : MethodName := ⟨"java/lang/String", "length", "()I"⟩
def q_sChr : MethodName := ⟨"java/lang/String", "charAt", "(I)C"⟩
/-- the resolved instruction is what the bytes and the links say -/
def q_ok2 (G : q_G) (own : String) (kd : Nat) (raw : Instr) (len : Nat) (i : Instr) (pos : Nat) : Bool := match i with
  | .getfield n => (match raw with | .getfield x => (match (q_gC G)[n / 64]? with | some (C, T, N) => decide (len = 3 ∧ n % 64 < N ∧ (T (n % 64)).1 = C ∧ q_tat G pos = some (.fieldLink own x C (T (n % 64)).2.1 (T (n % 64)).2.2.1)) | none => false) | _ => false)
  | .putfield n => (match raw with | .putfield x => (match (q_gC G)[n / 64]? with | some (C, T, N) => decide (len = 3 ∧ n % 64 < N ∧ (T (n % 64)).1 = C ∧ ((T (n % 64)).2.2.2 = false ∨ (kd = 2 ∧ C = own)) ∧ q_tat G pos = some (.fieldLink own x C (T (n % 64)).2.1 (T (n % 64)).2.2.1)) | none => false) | _ => false)
  | .iaload => decide (raw = i ∧ len = 1 ∧ (q_gA G)[0]? = some .int)
  | .laload => decide (raw = i ∧ len = 1 ∧ (q_gA G)[1]? = some .long)
  | .baload => decide (raw = i ∧ len = 1 ∧ (q_gA G)[2]? = some .byte ∧ (q_gA G)[3]? = some .boolean)
  | .aaload => decide (raw = i ∧ len = 1 ∧ ((q_gA G).drop 4).all (fun z => match z with | .object _ => true | _ => false) = true ∧ 4 < (q_gA G).length)
  | .iastore => decide (raw = i ∧ len = 1 ∧ (q_gA G)[0]? = some .int)
  | .lastore => decide (raw = i ∧ len = 1 ∧ (q_gA G)[1]? = some .long)
  | .bastore => decide (raw = i ∧ len = 1 ∧ (q_gA G)[2]? = some .byte ∧ (q_gA G)[3]? = some .boolean)
  | .aastore => decide (raw = i ∧ len = 1)
  | .arraylength => decide (raw = i ∧ len = 1)
  | .invokedynamic n => (match raw with
      | .invokespecial x => decide (n = 0 ∧ len = 3 ∧ q_tat G pos = some (.methodLink own x Lib.objectInit))
      | .invokestatic x => decide (n = 1 ∧ len = 3 ∧ (q_gA G)[0]? = some .int ∧ (q_gA G)[1]? = some .long ∧ q_tat G pos = some (.methodLink own x arraycopyName))
      | .invokevirtual x => decide (len = 3 ∧ ((n = 2 ∧ q_tat G pos = some (.methodLink own x q_sLen)) ∨ (n = 3 ∧ q_tat G pos = some (.methodLink own x q_sChr))))
      | _ => false)
  | _ => false
def q_ok3 (G : q_G) (own : String) (raw : Instr) (len : Nat) (i : Instr) (pos : Nat) : Bool := match i with
  | .new ci => (match raw with | .new x => (match (q_gC G)[ci]? with | some (C, _, _) => decide (len = 3 ∧ q_tat G pos = some (.classLink own x C)) | none => false) | _ => false)
  | .newarray a => decide (raw = i ∧ len = 2 ∧ q_tat G pos = some (.arrayClass (Op.newarray.typeOf a)) ∧ (q_gA G)[q_tag a]? = some (Op.newarray.typeOf a))
  | .anewarray t => (match raw with | .anewarray x => (match q_tat G pos with | some (.classLink o y C) => decide (len = 3 ∧ o = own ∧ y = x ∧ (q_gA G)[t]? = some (.object C)) | _ => false) | _ => false)
  | _ => false
/-- constants out of the pool -/
def q_ok5 (G : q_G) (own : String) (raw : Instr) (len : Nat) (i : Instr) (pos : Nat) : Bool := match i with
  | .sipush n => (match raw with | .ldc x => decide (len = 2 ∧ q_tat G pos = some (.constant own x (Int32.ofInt n))) | .ldc_w x => decide (len = 3 ∧ q_tat G pos = some (.constant own x (Int32.ofInt n))) | _ => false)
  | .jsr_w n => (match raw with | .ldc2_w x => decide (len = 3 ∧ q_tat G pos = some (.constantLong own x (Int64.ofInt n))) | _ => false)
  | .ldc n => (match raw with | .ldc x => (match (q_gS G)[n]? with | some z => decide (len = 2 ∧ z.1 = own ∧ z.2.1 = x) | none => false) | _ => false)
  | _ => false
def q_lk (i : Instr) (st : List Value) : Option (List Value) := match i with
  | .sipush n => some (.int (Int32.ofInt n) :: st)
  | .jsr_w n => some (.long (Int64.ofInt n) :: st)
  | .ldc n => some (.retAddr (n + 1) :: st)
  | _ => none
/-- what kind of step: 0 pure, 1 memory, 2 a new cell, 3 call or return, 4 a constant out of the pool -/
def q_grp (i : Instr) : Nat := match i with
  | .getfield _ => 1
  | .putfield _ => 1
  | .iaload => 1
  | .laload => 1
  | .baload => 1
  | .aaload => 1
  | .iastore => 1
  | .lastore => 1
  | .bastore => 1
  | .aastore => 1
  | .arraylength => 1
  | .invokedynamic _ => 1
  | .new _ => 2
  | .newarray _ => 2
  | .anewarray _ => 2
  | .ireturn => 3
  | .lreturn => 3
  | .return_ => 3
  | .invokevirtual _ => 3
  | .invokestatic _ => 3
  | .invokespecial _ => 3
  | .sipush _ => 4
  | .jsr_w _ => 4
  | .ldc _ => 4
  | _ => 0
def q_mY (M : q_MI) : MethodName := M.1
def q_mB (M : q_MI) : ByteArray := M.2.1
def q_mL (M : q_MI) : Nat := M.2.2.1
def q_mR (M : q_MI) : Option FieldType := M.2.2.2.1
def q_mC (M : q_MI) : List q_I := M.2.2.2.2.1
def q_mF (M : q_MI) : Nat := M.2.2.2.2.2.1.1
def q_mO (M : q_MI) : Nat := M.2.2.2.2.2.1.2.1
def q_mN (M : q_MI) : Nat := M.2.2.2.2.2.1.2.2.1
def q_mK (M : q_MI) : Nat := M.2.2.2.2.2.1.2.2.2
def q_mP (M : q_MI) : Nat × Nat × Nat × Nat := M.2.2.2.2.2.2
def q_lnk (G : q_G) (own : String) (x : Nat) (y : MethodName) (pos : Nat) : Bool := if pos < 100000 then decide (q_tat G pos = some (.methodLink own x y)) else (match (q_gN G)[pos - 100000]? with | some z => decide (z.1 = own ∧ z.2.1 = x ∧ z.2.2.1 = y) | none => false)
def q_ok4 (G : q_G) (own : String) (raw : Instr) (len : Nat) (i : Instr) (pos : Nat) : Bool := match i with
  | .ireturn => decide (raw = i ∧ len = 1)
  | .lreturn => decide (raw = i ∧ len = 1)
  | .return_ => decide (raw = i ∧ len = 1)
  | .invokevirtual k => (match raw with | .invokevirtual x => (match (q_gM G)[k]? with | some M => decide (len = 3 ∧ q_mK M = 0 ∧ q_tat G pos = some (.methodLink own x (q_mY M))) | none => false) | _ => false)
  | .invokestatic k => (match raw with | .invokestatic x => (match (q_gM G)[k]? with | some M => decide (len = 3 ∧ q_mK M = 1 ∧ q_lnk G own x (q_mY M) pos = true) | none => false) | _ => false)
  | .invokespecial k => (match raw with | .invokespecial x => (match (q_gM G)[k]? with | some M => decide (len = 3 ∧ q_mK M = 2 ∧ q_lnk G own x (q_mY M) pos = true) | none => false) | _ => false)
  | _ => false
def q_okI (G : q_G) (own : String) (kd : Nat) (I : q_I) : Bool := match q_grp I.2.2.2.1 with
  | 0 => q_ok1 I.2.1 I.2.2.1 I.2.2.2.1
  | 1 => q_ok2 G own kd I.2.1 I.2.2.1 I.2.2.2.1 I.2.2.2.2
  | 2 => q_ok3 G own I.2.1 I.2.2.1 I.2.2.2.1 I.2.2.2.2
  | 3 => q_ok4 G own I.2.1 I.2.2.1 I.2.2.2.1 I.2.2.2.2
  | _ => q_ok5 G own I.2.1 I.2.2.1 I.2.2.2.1 I.2.2.2.2
def q_okC (G : q_G) (M : q_MI) : Bool := (q_mC M).all (fun I => decide (decode (q_mB M) I.1 = .ok (I.2.1, I.2.2.1)) && q_okI G (q_mY M).cls (q_mK M) I)
def q_okH (G : q_G) (M : q_MI) : Bool := plainFor (q_mY M) && decide ((q_mY M).cls ≠ "java/lang/invoke/MethodHandle" ∧ (q_mY M).cls ≠ "java/lang/invoke/VarHandle" ∧ (parseMethodDescriptor (q_mY M).desc).map (fun d => d.parameters.length) = some (q_mN M))
  && decide (q_tat G (q_mP M).1 = some (.code (q_mY M) (q_mB M) (q_mL M) (q_mR M))) && decide (q_tat G (q_mP M).2.2.2 = some (.initialized (q_mY M).cls))
  && (match q_mK M with
    | 0 => decide (q_tat G (q_mP M).2.1 = some (.instanceMethod (q_mY M)) ∧ q_tat G (q_mP M).2.2.1 = some (.selects (q_mY M).cls (q_mY M) (q_mY M)))
    | 1 => decide (q_tat G (q_mP M).2.1 = some (.static (q_mY M)))
    | _ => decide (q_tat G (q_mP M).2.1 = some (.instanceMethod (q_mY M)) ∧ (q_mY M).name = "<init>" ∧ q_mR M = none))
def q_okM (G : q_G) (M : q_MI) : Prop := q_okH G M = true ∧ q_okC G M = true
def q_fd (C : List q_I) (pc : Nat) : Option q_I := match C with
  | [] => none
  | I :: C => if I.1 = pc then some I else q_fd C pc
theorem q_fd_mem : ∀ {C : List q_I} {pc : Nat} {I : q_I}, q_fd C pc = some I → I ∈ C ∧ I.1 = pc
  | [], pc, I, h => by simp [q_fd] at h
  | J :: C, pc, I, h => by
    unfold q_fd at h
    split at h
    · cases h
      exact ⟨List.mem_cons_self, by assumption⟩
    · exact ⟨List.mem_cons_of_mem _ (q_fd_mem h).1, (q_fd_mem h).2⟩
def q_na (M : q_MI) : Nat := match q_mK M with
  | 1 => q_mN M
  | _ => q_mN M + 1
def q_rcv (G : q_G) (M : q_MI) (as : List Value) (m : q_M) : Bool := match q_mK M with
  | 1 => true
  | 0 => (match as with | .ref a :: _ => (match m[a]? with | some (.inr (ci, _)) => decide ((q_gC G)[ci]?.map (fun z => z.1) = some (q_mY M).cls) | _ => false) | _ => false)
  | _ => (match as with | .ref _ :: _ => true | _ => false)
/-- a call: the method, its arguments (the object first), what stays on the stack -/
def q_call (G : q_G) (M : q_MI) (k : Nat) (st : List Value) (m : q_M) : Option (q_MI × List Value × List Value) := match (q_gM G)[k]? with
  | none => none
  | some M1 => if q_na M1 ≤ st.length ∧ q_cats (st.drop (q_na M1)) ≤ 8 ∧ q_mF M1 + 1 ≤ q_mF M ∧ 8 + (q_mL M1 + 11) + q_mO M1 ≤ q_mO M ∧ q_cats (st.take (q_na M1)) ≤ q_mL M1 ∧ q_rcv G M1 (st.take (q_na M1)).reverse m = true
    then some (M1, (st.take (q_na M1)).reverse, st.drop (q_na M1)) else none
/-- what a method gives back, by its last instruction -/
def q_retn (M : q_MI) (i : Instr) (st : List Value) : Option (Option Value) := match i with
  | .ireturn => (match st with | [.int v] => (match q_mR M with | some ty => if narrow ty (.int v) = .int v then some (some (.int v)) else none | none => none) | _ => none)
  | .lreturn => (match st with | [.long v] => if q_mR M = some .long then some (some (.long v)) else none | _ => none)
  | .return_ => (match st with | [] => if q_mR M = none then some none else none | _ => none)
  | _ => none
def q_cnum (i : Instr) : Option Nat := match i with
  | .invokevirtual k => some k
  | .invokestatic k => some k
  | .invokespecial k => some k
  | _ => none
/-- the pure machine: n steps at most, calls and all -/
def q_run (G : q_G) : Nat → q_MI → Nat → q_L → List Value → q_M → Option (Option Value × q_M)
  | 0, _, _, _, _, _ => none
  | n + 1, M, pc, l, st, m => match q_fd (q_mC M) pc with
    | none => none
    | some (_, _, len, i, _) => match q_grp i with
      | 0 => (match q_pure (q_mL M) pc len i l st with | some (pc1, l1, st1) => q_run G n M pc1 l1 st1 m | none => none)
      | 1 => (match q_mem G (q_mF M) (q_mO M) i st m with | some (st1, m1) => q_run G n M (pc + len) l st1 m1 | none => none)
      | 2 => (match q_new G i st m with | some (st1, x) => q_run G n M (pc + len) l st1 (m ++ [x]) | none => none)
      | 3 => (match q_cnum i with
          | some k => (match q_call G M k st m with
              | some (M1, as, rest) => (match q_run G n M1 0 (lv_args 0 as) [] m with | some (r, m1) => q_run G n M (pc + len) l (r.toList ++ rest) m1 | none => none)
              | none => none)
          | none => (match q_retn M i st with | some r => some (r, m) | none => none))
      | _ => (match q_lk i st with | some st1 => q_run G n M (pc + len) l st1 m | none => none)

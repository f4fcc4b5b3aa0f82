/-! THE PROGRAM's DATA: the tables' words, the classes, the arrays' types, the methods, the links to private members of nest mates -/
def q_tyl (G : q_G) (tc : Nat → ClassId) : List (ClassId × FieldType) := (q_gA G).mapIdx (fun t ty => (tc t, ty))
theorem q_tyl_get {G : q_G} {tc : Nat → ClassId} {t : Nat} {ty : FieldType} (h : (q_gA G)[t]? = some ty) : (q_tyl G tc)[t]? = some (tc t, ty) := by simp [q_tyl, h]
def q_sys : List Cond := [.native arraycopyName, .static arraycopyName, .initialized "java/lang/System", .instanceMethod Lib.objectInit, .code Lib.objectInit ⟨#[0xb1]⟩ 1 none]
def q_GV (G : q_G) : Prop := (∀ (ci : Nat) (C : String) (T : u_T) (N : Nat), (q_gC G)[ci]? = some (C, T, N) → (∀ w ∈ u_ws C T N, w ∈ q_T G) ∧ (∀ k, k < N → parseFieldDescriptor (T k).2.2.1 = some (q_gY G ci k)) ∧ (∀ a, a < N → ∀ b, b < N → a ≠ b → (T a).2.1 ≠ (T b).2.1) ∧ Cond.instantiable C N ∈ q_T G ∧ Cond.initialized C ∈ q_T G) ∧ (∀ w ∈ q_sys, w ∈ q_T G) ∧ (∀ w ∈ s_all, w ∈ q_T G)
theorem q_cats_cv (bs : q_B) (r : List Value) : ((r.map (q_cv bs)).map fun v => v.category).sum = q_cats r := by
  simp only [q_cats, List.map_map]
  congr 1
  apply List.map_congr_left
  intro v _
  exact q_cv_cat bs v
/-- the resolved instruction is what the bytes and the links say -/
def q_ok2 (G : q_G) (own : String) (kd : Nat) (raw : Instr) (len : Nat) (i : Instr) (pos : Nat) : Bool := match i with
  | .getfield n => (match raw with | .getfield x => (match (q_gC G)[n / 64]? with | some (C, T, N) => decide (len = 3 ∧ n % 64 < N ∧ (T (n % 64)).1 = C ∧ q_tat G pos = some (.fieldLink own x C (T (n % 64)).2.1 (T (n % 64)).2.2.1)) | none => false) | _ => false)
  | .putfield n => (match raw with | .putfield x => (match (q_gC G)[n / 64]? with | some (C, T, N) => decide (len = 3 ∧ n % 64 < N ∧ (T (n % 64)).1 = C ∧ ((T (n % 64)).2.2.2 = false ∨ (kd = 2 ∧ C = own)) ∧ q_tat G pos = some (.fieldLink own x C (T (n % 64)).2.1 (T (n % 64)).2.2.1)) | none => false) | _ => false)
  | .iaload => decide (raw = i ∧ len = 1 ∧ (q_gA G)[0]? = some .int)
  | .laload => decide (raw = i ∧ len = 1 ∧ (q_gA G)[1]? = some .long)
  | .baload => decide (raw = i ∧ len = 1 ∧ (q_gA G)[2]? = some .byte ∧ (q_gA G)[3]? = some .boolean)
  | .aaload => decide (raw = i ∧ len = 1 ∧ ((q_gA G).drop 4).all (fun z => match z with | .object _ => true | _ => false) = true ∧ 4 < (q_gA G).length)
  | .iastore => decide (raw = i ∧ len = 1 ∧ (q_gA G)[0]? = some .int)
  | .lastore => decide (raw = i ∧ len = 1 ∧ (q_gA G)[1]? = some .long)
  | .bastore => decide (raw = i ∧ len = 1 ∧ (q_gA G)[2]? = some .byte ∧ (q_gA G)[3]? = some .boolean)
  | .aastore => decide (raw = i ∧ len = 1)
  | .arraylength => decide (raw = i ∧ len = 1)
  | .invokedynamic n => (match raw with
      | .invokespecial x => decide (n = 0 ∧ len = 3 ∧ q_tat G pos = some (.methodLink own x Lib.objectInit))
      | .invokestatic x => decide (n = 1 ∧ len = 3 ∧ (q_gA G)[0]? = some .int ∧ (q_gA G)[1]? = some .long ∧ q_tat G pos = some (.methodLink own x arraycopyName))
      | .invokevirtual x => decide (len = 3 ∧ ((n = 2 ∧ q_tat G pos = some (.methodLink own x q_sLen)) ∨ (n = 3 ∧ q_tat G pos = some (.methodLink own x q_sChr))))
      | _ => false)
  | _ => false
def q_ok3 (G : q_G) (own : String) (raw : Instr) (len : Nat) (i : Instr) (pos : Nat) : Bool := match i with
  | .new ci => (match raw with | .new x => (match (q_gC G)[ci]? with | some (C, _, _) => decide (len = 3 ∧ q_tat G pos = some (.classLink own x C)) | none => false) | _ => false)
  | .newarray a => decide (raw = i ∧ len = 2 ∧ q_tat G pos = some (.arrayClass (Op.newarray.typeOf a)) ∧ (q_gA G)[q_tag a]? = some (Op.newarray.typeOf a))
  | .anewarray t => (match raw with | .anewarray x => (match q_tat G pos with | some (.classLink o y C) => decide (len = 3 ∧ o = own ∧ y = x ∧ (q_gA G)[t]? = some (.object C)) | _ => false) | _ => false)
  | _ => false
/-- constants out of the pool -/
def q_ok5 (G : q_G) (own : String) (raw : Instr) (len : Nat) (i : Instr) (pos : Nat) : Bool := match i with
  | .sipush n => (match raw with | .ldc x => decide (len = 2 ∧ q_tat G pos = some (.constant own x (Int32.ofInt n))) | .ldc_w x => decide (len = 3 ∧ q_tat G pos = some (.constant own x (Int32.ofInt n))) | _ => false)
  | .jsr_w n => (match raw with | .ldc2_w x => decide (len = 3 ∧ q_tat G pos = some (.constantLong own x (Int64.ofInt n))) | _ => false)
  | .ldc n => (match raw with | .ldc x => (match (q_gS G)[n]? with | some z => decide (len = 2 ∧ z.1 = own ∧ z.2.1 = x) | none => false) | _ => false)
  | _ => false
def q_lnk (G : q_G) (own : String) (x : Nat) (y : MethodName) (pos : Nat) : Bool := if pos < 100000 then decide (q_tat G pos = some (.methodLink own x y)) else (match (q_gN G)[pos - 100000]? with | some z => decide (z.1 = own ∧ z.2.1 = x ∧ z.2.2.1 = y) | none => false)
def q_ok4 (G : q_G) (own : String) (raw : Instr) (len : Nat) (i : Instr) (pos : Nat) : Bool := match i with
  | .ireturn => decide (raw = i ∧ len = 1)
  | .lreturn => decide (raw = i ∧ len = 1)
  | .return_ => decide (raw = i ∧ len = 1)
  | .invokevirtual k => (match raw with | .invokevirtual x => (match (q_gM G)[k]? with | some M => decide (len = 3 ∧ q_mK M = 0 ∧ q_tat G pos = some (.methodLink own x (q_mY M))) | none => false) | _ => false)
  | .invokestatic k => (match raw with | .invokestatic x => (match (q_gM G)[k]? with | some M => decide (len = 3 ∧ q_mK M = 1 ∧ q_lnk G own x (q_mY M) pos = true) | none => false) | _ => false)
  | .invokespecial k => (match raw with | .invokespecial x => (match (q_gM G)[k]? with | some M => decide (len = 3 ∧ q_mK M = 2 ∧ q_lnk G own x (q_mY M) pos = true) | none => false) | _ => false)
  | _ => false
def q_okI (G : q_G) (own : String) (kd : Nat) (I : q_I) : Bool := match q_grp I.2.2.2.1 with
  | 0 => q_ok1 I.2.1 I.2.2.1 I.2.2.2.1
  | 1 => q_ok2 G own kd I.2.1 I.2.2.1 I.2.2.2.1 I.2.2.2.2
  | 2 => q_ok3 G own I.2.1 I.2.2.1 I.2.2.2.1 I.2.2.2.2
  | 3 => q_ok4 G own I.2.1 I.2.2.1 I.2.2.2.1 I.2.2.2.2
  | _ => q_ok5 G own I.2.1 I.2.2.1 I.2.2.2.1 I.2.2.2.2
def q_okC (G : q_G) (M : q_MI) : Bool := (q_mC M).all (fun I => decide (decode (q_mB M) I.1 = .ok (I.2.1, I.2.2.1)) && q_okI G (q_mY M).cls (q_mK M) I)
def q_okH (G : q_G) (M : q_MI) : Bool := plainFor (q_mY M) && decide ((q_mY M).cls ≠ "java/lang/invoke/MethodHandle" ∧ (q_mY M).cls ≠ "java/lang/invoke/VarHandle" ∧ (parseMethodDescriptor (q_mY M).desc).map (fun d => d.parameters.length) = some (q_mN M))
  && decide (q_tat G (q_mP M).1 = some (.code (q_mY M) (q_mB M) (q_mL M) (q_mR M))) && decide (q_tat G (q_mP M).2.2.2 = some (.initialized (q_mY M).cls))
  && (match q_mK M with
    | 0 => decide (q_tat G (q_mP M).2.1 = some (.instanceMethod (q_mY M)) ∧ q_tat G (q_mP M).2.2.1 = some (.selects (q_mY M).cls (q_mY M) (q_mY M)))
    | 1 => decide (q_tat G (q_mP M).2.1 = some (.static (q_mY M)))
    | _ => decide (q_tat G (q_mP M).2.1 = some (.instanceMethod (q_mY M)) ∧ (q_mY M).name = "<init>" ∧ q_mR M = none))
def q_okM (G : q_G) (M : q_MI) : Prop := q_okH G M = true ∧ q_okC G M = true
/-- the texts, where they lie -/
def q_Sh (G : q_G) (bs : q_B) (U : State) (H : Heap) : Prop := ∃ w : Value, ∀ (n : Nat) (x : q_Sx), (q_gS G)[n]? = some x → vk_R x.1 x.2.1 x.2.2.1 (bs.2 (n + 1)) U ∧ ∃ av : Nat, s_T (fun z => bs.1 ≤ z) x.2.2.2 (bs.2 (n + 1)) av w U H
theorem q_Sh_warm {G : q_G} {bs : q_B} {s U : State} {H : Heap} (hW : s.WarmedH U.vm) (h : q_Sh G bs s H) : q_Sh G bs U H := by
  obtain ⟨w, h⟩ := h
  refine ⟨w, fun n x hx => ?_⟩
  obtain ⟨h1, av, h2⟩ := h n x hx
  exact ⟨vk_R.warm hW h1, av, s_T.moved hW.alike h2⟩
theorem q_Sh_same {G : q_G} {bs : q_B} {u U : State} {H : Heap} (e : u.vm = U.vm) (h : q_Sh G bs u H) : q_Sh G bs U H := by
  obtain ⟨w, h⟩ := h
  refine ⟨w, fun n x hx => ?_⟩
  obtain ⟨h1, av, h2⟩ := h n x hx
  exact ⟨vk_R.same e.symm h1, av, s_T.moved (by rw [e]; exact Vm.Alike.refl _) h2⟩
theorem q_Sh_kept {G : q_G} {bs : q_B} {U : State} {H0 H : Heap} {locs : List Loc} (hS : va_S (fun z => bs.1 ≤ z) H0 H locs) (h : q_Sh G bs U H0) : q_Sh G bs U H := by
  obtain ⟨w, h⟩ := h
  refine ⟨w, fun n x hx => ?_⟩
  obtain ⟨h1, av, h2⟩ := h n x hx
  exact ⟨h1, av, h2.kept hS.2.1⟩

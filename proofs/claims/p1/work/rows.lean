section
/-! THE PURE MACHINE: cells by their number, a step as a function; refs are numbers of cells, the cell k lies at the address bs + k -/
abbrev q_A : Type := Nat × Nat × ((Nat → Int32) ⊕ (Nat → Int64) ⊕ (Nat → Option Nat))
abbrev q_E : Type := q_A ⊕ (Nat × List Value)
abbrev q_M : Type := List q_E
abbrev q_L : Type := List (Nat × Value)
def q_cv (bs : Nat) (v : Value) : Value := match v with
  | .ref k => .ref (bs + k)
  | .retAddr b => .ref b
  | v => v
def q_ce (bs : Nat) (tc : Nat → ClassId) (x : q_E) : va_E := match x with
  | .inl (t, n, .inl f) => .inl (tc t, n, .inl f)
  | .inl (t, n, .inr (.inl f)) => .inl (tc t, n, .inr (.inl f))
  | .inl (t, n, .inr (.inr f)) => .inl (tc t, n, .inr (.inr (.inr (.inr (fun j => (f j).map (fun k => bs + k))))))
  | .inr (ci, fs) => .inr (ci, fs.map (q_cv bs))
def q_cw (bs : Nat) (tc : Nat → ClassId) (m : q_M) : va_W := m.mapIdx (fun k x => (bs + k, q_ce bs tc x))
def q_cl (bs : Nat) (l : q_L) : q_L := l.map (fun q => (q.1, q_cv bs q.2))
def q_sz (x : q_E) : Nat := match x with
  | .inl (_, n, _) => n
  | .inr (_, fs) => fs.length
def q_sl (m : q_M) : Nat := (m.map q_sz).sum
theorem q_cv_cat (bs : Nat) (v : Value) : (q_cv bs v).category = v.category := by cases v <;> rfl
theorem q_cv_narrow (bs : Nat) (ty : FieldType) (v : Value) : narrow ty (q_cv bs v) = q_cv bs (narrow ty v) := by
  cases v <;> cases ty <;> rfl
theorem q_cv_fits (bs : Nat) (ty : FieldType) (v : Value) (h : fits ty v = true) : fits ty (q_cv bs v) = true := by
  cases v <;> cases ty <;> first | exact h | cases h
theorem q_cw_get {bs : Nat} {tc : Nat → ClassId} {m : q_M} {k : Nat} {x : q_E} (h : m[k]? = some x) : (q_cw bs tc m)[k]? = some (bs + k, q_ce bs tc x) := by
  simp [q_cw, h]
theorem q_cw_len {bs : Nat} {tc : Nat → ClassId} {m : q_M} : (q_cw bs tc m).length = m.length := by simp [q_cw]
theorem q_cw_set {bs : Nat} {tc : Nat → ClassId} {m : q_M} {k : Nat} {x : q_E} : (q_cw bs tc m).set k (bs + k, q_ce bs tc x) = q_cw bs tc (m.set k x) := by
  apply List.ext_getElem?
  intro i
  simp only [q_cw, List.getElem?_mapIdx, List.getElem?_set, List.length_mapIdx]
  by_cases h : k = i
  · subst h
    by_cases hl : k < m.length <;> simp [hl]
  · simp [h]
theorem q_cw_push {bs : Nat} {tc : Nat → ClassId} {m : q_M} {x : q_E} : q_cw bs tc m ++ [(bs + m.length, q_ce bs tc x)] = q_cw bs tc (m ++ [x]) := by
  simp [q_cw]
theorem q_cw_D {bs : Nat} {tc : Nat → ClassId} {m : q_M} : va_D (fun q => bs ≤ q) (q_cw bs tc m) := by
  refine ⟨fun i j x y hi hj hxy => ?_, fun k q hk => ?_⟩
  · simp only [q_cw, List.getElem?_mapIdx, Option.map_eq_some_iff] at hi hj
    obtain ⟨a, -, rfl⟩ := hi
    obtain ⟨b, -, rfl⟩ := hj
    simp only at hxy
    omega
  · simp only [q_cw, List.getElem?_mapIdx, Option.map_eq_some_iff] at hk
    obtain ⟨a, -, rfl⟩ := hk
    exact Nat.le_add_right _ _
/-- the heap holds the pure memory -/
abbrev q_Wd (D : va_G) (cl : List vw_C) (bs : Nat) (tc : Nat → ClassId) (m : q_M) (H : Heap) : Prop := va_P D cl (q_cw bs tc m) H
theorem q_sl_set {m : q_M} {k : Nat} {x y : q_E} (h : m[k]? = some x) (hs : q_sz y = q_sz x) : q_sl (m.set k y) = q_sl m := by
  have e : (m.set k y).map q_sz = m.map q_sz := by
    apply List.ext_getElem?
    intro i
    simp only [List.getElem?_map, List.getElem?_set]
    by_cases hk : k = i
    · subst hk
      have hl := (List.getElem?_eq_some_iff.mp h).1
      have e2 : m[k] = x := by
        rw [List.getElem?_eq_getElem hl] at h
        exact Option.some.inj h
      simp [hl, e2, hs]
    · simp [hk]
  simp [q_sl, e]
theorem q_sl_push (m : q_M) (x : q_E) : q_sl (m ++ [x]) = q_sl m + q_sz x := by simp [q_sl]
/-- locals -/
def q_get (l : q_L) (k : Nat) : Option Value := match l with
  | [] => none
  | q :: l => if q.1 = k then some q.2 else q_get l k
theorem q_get_mem : ∀ {l : q_L} {k : Nat} {v : Value}, q_get l k = some v → (k, v) ∈ l
  | [], k, v, h => by simp [q_get] at h
  | q :: l, k, v, h => by
    unfold q_get at h
    by_cases hk : q.1 = k
    · rw [if_pos hk] at h
      cases h
      subst hk
      exact List.mem_cons_self
    · rw [if_neg hk] at h
      exact List.mem_cons_of_mem _ (q_get_mem h)
def q_s1 (l : q_L) (i : Nat) (v : Value) : q_L := (i, v) :: l.filter (fun q => !(q.1 == i) && !(q.1 + 1 == i && q.2.category == 2))
def q_s2 (l : q_L) (i : Nat) (v : Value) : q_L := (i, v) :: l.filter (fun q => !(q.1 == i) && (!(q.1 == i + 1) && !(q.1 + 1 == i && q.2.category == 2)))
theorem q_cl_filter (bs : Nat) (P : Nat → Nat → Bool) : ∀ l : q_L, (q_cl bs l).filter (fun q => P q.1 q.2.category) = q_cl bs (l.filter (fun q => P q.1 q.2.category))
  | [] => rfl
  | q :: l => by
    have ih := q_cl_filter bs P l
    simp only [q_cl, List.map_cons, List.filter_cons, q_cv_cat] at ih ⊢
    by_cases h : P q.1 q.2.category = true
    · simp [h, ih]
    · simp [h, ih]
theorem q_cl_s1 (bs : Nat) (l : q_L) (i : Nat) (v : Value) : (i, q_cv bs v) :: (q_cl bs l).filter (fun q => !(q.1 == i) && !(q.1 + 1 == i && q.2.category == 2)) = q_cl bs (q_s1 l i v) := by
  rw [q_cl_filter bs (fun a b => !(a == i) && !(a + 1 == i && b == 2)) l]
  rfl
theorem q_cl_s2 (bs : Nat) (l : q_L) (i : Nat) (v : Value) : (i, q_cv bs v) :: (q_cl bs l).filter (fun q => !(q.1 == i) && (!(q.1 == i + 1) && !(q.1 + 1 == i && q.2.category == 2))) = q_cl bs (q_s2 l i v) := by
  rw [q_cl_filter bs (fun a b => !(a == i) && (!(a == i + 1) && !(a + 1 == i && b == 2))) l]
  rfl
theorem q_lv {ls : Array Slot} {nL bs : Nat} {l : q_L} (h : lv_has ls nL (q_cl bs l)) {k : Nat} {v : Value} (hg : q_get l k = some v) : ls[k]? = some (.val (q_cv bs v)) :=
  h.2.2 (k, q_cv bs v) (List.mem_map.mpr ⟨(k, v), q_get_mem hg, rfl⟩)
theorem q_lvx {bs : Nat} {l : q_L} {k : Nat} {v : Value} (hg : q_get l k = some v) : ∃ j : Nat, (q_cl bs l)[j]? = some (k, q_cv bs v) :=
  List.getElem?_of_mem (List.mem_map.mpr ⟨(k, v), q_get_mem hg, rfl⟩)
def q_in (i : Int32) (n : Nat) : Bool := !(decide (i < 0)) && decide (i.toNatClampNeg < n)
theorem q_in_vp {i : Int32} {n : Nat} (h : q_in i n = true) : vp_in i n := by
  simp only [q_in, Bool.and_eq_true, Bool.not_eq_true', decide_eq_false_iff_not, decide_eq_true_eq] at h
  rintro (h1 | h1)
  · exact h.1 h1
  · omega
end
section
def q_c (c : Jvm.ClassFile.Cond) (x y : Int32) : Bool := match c with
  | .eq => decide (x = y)
  | .ne => decide (¬ x = y)
  | .lt => decide (x < y)
  | .ge => decide (y ≤ x)
  | .gt => decide (y < x)
  | .le => decide (x ≤ y)
def q_to (pc : Nat) (off : Int) (l : q_L) (st : List Value) : Option (Nat × q_L × List Value) := if 0 ≤ (pc : Int) + off then some (((pc : Int) + off).toNat, l, st) else none
def q_br (pc len : Nat) (off : Int) (b : Bool) (l : q_L) (st : List Value) : Option (Nat × q_L × List Value) := if 0 ≤ (pc : Int) + off then some (if b = true then ((pc : Int) + off).toNat else pc + len, l, st) else none
/-- a step that leaves the memory alone -/
def q_pure (nL pc len : Nat) (i : Instr) (l : q_L) (st : List Value) : Option (Nat × q_L × List Value) := match i with
  | .iconst n => some (pc + len, l, .int (Int32.ofInt n) :: st)
  | .goto_w n => some (pc + len, l, .long (Int64.ofInt n) :: st)
  | .iload k => (match q_get l k with | some (.int x) => some (pc + len, l, .int x :: st) | _ => none)
  | .lload k => (match q_get l k with | some (.long x) => some (pc + len, l, .long x :: st) | _ => none)
  | .aload k => (match q_get l k with | some (.ref x) => some (pc + len, l, .ref x :: st) | some (.retAddr x) => some (pc + len, l, .retAddr x :: st) | _ => none)
  | .istore k => (match st with | .int x :: r => if k < nL then some (pc + len, q_s1 l k (.int x), r) else none | _ => none)
  | .astore k => (match st with | .ref x :: r => if k < nL then some (pc + len, q_s1 l k (.ref x), r) else none | _ => none)
  | .lstore k => (match st with | .long x :: r => if k + 1 < nL then some (pc + len, q_s2 l k (.long x), r) else none | _ => none)
  | .iinc k n => (match q_get l k with | some (.int x) => if k < nL then some (pc + len, q_s1 l k (.int (x + Int32.ofInt n)), st) else none | _ => none)
  | .iadd => (match st with | .int y :: .int x :: r => some (pc + len, l, .int (x + y) :: r) | _ => none)
  | .isub => (match st with | .int y :: .int x :: r => some (pc + len, l, .int (x - y) :: r) | _ => none)
  | .imul => (match st with | .int y :: .int x :: r => some (pc + len, l, .int (x * y) :: r) | _ => none)
  | .iand => (match st with | .int y :: .int x :: r => some (pc + len, l, .int (x &&& y) :: r) | _ => none)
  | .ior => (match st with | .int y :: .int x :: r => some (pc + len, l, .int (x ||| y) :: r) | _ => none)
  | .ixor => (match st with | .int y :: .int x :: r => some (pc + len, l, .int (x ^^^ y) :: r) | _ => none)
  | .ishl => (match st with | .int y :: .int x :: r => some (pc + len, l, .int (x <<< (y &&& 31)) :: r) | _ => none)
  | .ishr => (match st with | .int y :: .int x :: r => some (pc + len, l, .int (x >>> (y &&& 31)) :: r) | _ => none)
  | .iushr => (match st with | .int y :: .int x :: r => some (pc + len, l, .int ((x.toUInt32 >>> (y.toUInt32 &&& Int32.toUInt32 31)).toInt32) :: r) | _ => none)
  | .ladd => (match st with | .long y :: .long x :: r => some (pc + len, l, .long (x + y) :: r) | _ => none)
  | .lsub => (match st with | .long y :: .long x :: r => some (pc + len, l, .long (x - y) :: r) | _ => none)
  | .lmul => (match st with | .long y :: .long x :: r => some (pc + len, l, .long (x * y) :: r) | _ => none)
  | .land => (match st with | .long y :: .long x :: r => some (pc + len, l, .long (x &&& y) :: r) | _ => none)
  | .lor => (match st with | .long y :: .long x :: r => some (pc + len, l, .long (x ||| y) :: r) | _ => none)
  | .lxor => (match st with | .long y :: .long x :: r => some (pc + len, l, .long (x ^^^ y) :: r) | _ => none)
  | .idiv => (match st with | .int y :: .int x :: r => if y = 0 then none else some (pc + len, l, .int (x / y) :: r) | _ => none)
  | .irem => (match st with | .int y :: .int x :: r => if y = 0 then none else some (pc + len, l, .int (x - x / y * y) :: r) | _ => none)
  | .ldiv => (match st with | .long y :: .long x :: r => if y = 0 then none else some (pc + len, l, .long (x / y) :: r) | _ => none)
  | .lrem => (match st with | .long y :: .long x :: r => if y = 0 then none else some (pc + len, l, .long (x - x / y * y) :: r) | _ => none)
  | .lshl => (match st with | .int y :: .long x :: r => some (pc + len, l, .long (x <<< (y.toInt64 &&& 63)) :: r) | _ => none)
  | .lshr => (match st with | .int y :: .long x :: r => some (pc + len, l, .long (x >>> (y.toInt64 &&& 63)) :: r) | _ => none)
  | .lushr => (match st with | .int y :: .long x :: r => some (pc + len, l, .long ((x.toUInt64 >>> (y.toInt64.toUInt64 &&& Int64.toUInt64 63)).toInt64) :: r) | _ => none)
  | .i2l => (match st with | .int x :: r => some (pc + len, l, .long (x.toInt64) :: r) | _ => none)
  | .l2i => (match st with | .long x :: r => some (pc + len, l, .int (x.toInt32) :: r) | _ => none)
  | .i2b => (match st with | .int x :: r => some (pc + len, l, .int (x.toInt8.toInt32) :: r) | _ => none)
  | .i2s => (match st with | .int x :: r => some (pc + len, l, .int (x.toInt16.toInt32) :: r) | _ => none)
  | .i2c => (match st with | .int x :: r => some (pc + len, l, .int ((x.toUInt32 % 65536).toInt32) :: r) | _ => none)
  | .ineg => (match st with | .int x :: r => some (pc + len, l, .int (-x) :: r) | _ => none)
  | .lneg => (match st with | .long x :: r => some (pc + len, l, .long (-x) :: r) | _ => none)
  | .lcmp => (match st with | .long y :: .long x :: r => some (pc + len, l, .int (lg_cmp x y) :: r) | _ => none)
  | .dup => (match st with | v :: r => if v.category = 1 then some (pc + len, l, v :: v :: r) else none | _ => none)
  | .pop => (match st with | v :: r => if v.category = 1 then some (pc + len, l, r) else none | _ => none)
  | .dup2 => (match st with | a :: r => if a.category = 2 then some (pc + len, l, a :: a :: r) else (match r with | b :: r => if a.category = 1 ∧ b.category = 1 then some (pc + len, l, a :: b :: a :: b :: r) else none | _ => none) | _ => none)
  | .pop2 => (match st with | a :: r => if a.category = 2 then some (pc + len, l, r) else none | _ => none)
  | .ifCond c off => (match st with | .int x :: r => q_br pc len off (q_c c x 0) l r | _ => none)
  | .if_icmp c off => (match st with | .int y :: .int x :: r => q_br pc len off (q_c c x y) l r | _ => none)
  | .goto off => q_to pc off l st
  | .tableswitch d lo hi offs => (match st with | .int x :: r => if x.toInt < lo ∨ hi < x.toInt then q_to pc d l r else (match offs[(x.toInt - lo).toNat]? with | some off => q_to pc off l r | none => none) | _ => none)
  | .lookupswitch d ps => (match st with | .int x :: r => if (ps.toList.zip (ps.toList.drop 1)).all (fun (a, next) => a.1 < next.1) = true then q_to pc (Op.lookupswitch.offset ps.toList d x.toInt) l r else none | _ => none)
  | _ => none
/-- the resolved instruction is what the bytes say (no links) -/
def q_ok1 (raw : Instr) (len : Nat) (i : Instr) : Bool := match i with
  | .iconst n => (match raw with | .iconst a => decide (a = n ∧ len = 1) | .bipush a => decide (a = n ∧ len = 2 ∧ (Int8.ofInt n).toInt32 = Int32.ofInt n) | .sipush a => decide (a = n ∧ len = 3 ∧ (Int16.ofInt n).toInt32 = Int32.ofInt n) | _ => false)
  | .goto_w n => (match raw with | .lconst a => decide (((a : Nat) : Int) = n ∧ len = 1) | _ => false)
  | .iload k => (match raw with | .iload a => decide (a = k ∧ len = 2) | .iload_n a => decide ((a : Nat) = k ∧ len = 1) | _ => false)
  | .lload k => (match raw with | .lload a => decide (a = k ∧ len = 2) | .lload_n a => decide ((a : Nat) = k ∧ len = 1) | _ => false)
  | .aload k => (match raw with | .aload a => decide (a = k ∧ len = 2) | .aload_n a => decide ((a : Nat) = k ∧ len = 1) | _ => false)
  | .istore k => (match raw with | .istore a => decide (a = k ∧ len = 2) | .istore_n a => decide ((a : Nat) = k ∧ len = 1) | _ => false)
  | .astore k => (match raw with | .astore a => decide (a = k ∧ len = 2) | .astore_n a => decide ((a : Nat) = k ∧ len = 1) | _ => false)
  | .lstore k => (match raw with | .lstore a => decide (a = k ∧ len = 2) | .lstore_n a => decide ((a : Nat) = k ∧ len = 1) | _ => false)
  | .iinc _ _ => decide (raw = i ∧ len = 3)
  | .iadd => decide (raw = i ∧ len = 1)
  | .isub => decide (raw = i ∧ len = 1)
  | .imul => decide (raw = i ∧ len = 1)
  | .iand => decide (raw = i ∧ len = 1)
  | .ior => decide (raw = i ∧ len = 1)
  | .ixor => decide (raw = i ∧ len = 1)
  | .ishl => decide (raw = i ∧ len = 1)
  | .ishr => decide (raw = i ∧ len = 1)
  | .iushr => decide (raw = i ∧ len = 1)
  | .ladd => decide (raw = i ∧ len = 1)
  | .lsub => decide (raw = i ∧ len = 1)
  | .lmul => decide (raw = i ∧ len = 1)
  | .land => decide (raw = i ∧ len = 1)
  | .lor => decide (raw = i ∧ len = 1)
  | .lxor => decide (raw = i ∧ len = 1)
  | .idiv => decide (raw = i ∧ len = 1)
  | .irem => decide (raw = i ∧ len = 1)
  | .ldiv => decide (raw = i ∧ len = 1)
  | .lrem => decide (raw = i ∧ len = 1)
  | .lshl => decide (raw = i ∧ len = 1)
  | .lshr => decide (raw = i ∧ len = 1)
  | .lushr => decide (raw = i ∧ len = 1)
  | .i2l => decide (raw = i ∧ len = 1)
  | .l2i => decide (raw = i ∧ len = 1)
  | .i2b => decide (raw = i ∧ len = 1)
  | .i2s => decide (raw = i ∧ len = 1)
  | .i2c => decide (raw = i ∧ len = 1)
  | .ineg => decide (raw = i ∧ len = 1)
  | .lneg => decide (raw = i ∧ len = 1)
  | .lcmp => decide (raw = i ∧ len = 1)
  | .dup => decide (raw = i ∧ len = 1)
  | .pop => decide (raw = i ∧ len = 1)
  | .dup2 => decide (raw = i ∧ len = 1)
  | .pop2 => decide (raw = i ∧ len = 1)
  | .ifCond _ _ => decide (raw = i ∧ len = 3)
  | .if_icmp _ _ => decide (raw = i ∧ len = 3)
  | .goto _ => decide (raw = i ∧ len = 3)
  | .tableswitch _ _ _ _ => decide (raw = i)
  | .lookupswitch _ _ => decide (raw = i)
  | _ => false
section QPURE
variable {p : Program} {l : Launch} {e : Env} {R : Room} {s : State} {m : MethodId} {args : Array Value} {below : List Frame} {meth : Method} {c : Code} {H : Heap} {locs : List Loc} {cells slots : Nat} {Q : State → Prop}
variable {cc : ByteArray} {pc : Nat} {ls : Array Slot}
theorem q_toW (l' : q_L) {off : Int} {lv lv' : q_L} {st st' : List Value} {pc' : Nat} (h : q_to pc off lv st = some (pc', lv', st')) : (pc : Int) + off = (pc' : Int) ∧ lv' = lv ∧ st' = st := by
  unfold q_to at h
  split at h
  · cases h
    exact ⟨by omega, rfl, rfl⟩
  · cases h
theorem q_brW {P : Prop} [Decidable P] {bs : Nat} {off : Int} {lv lv' : q_L} {r st' : List Value} {pc' : Nat} {G : Prop} (h : q_br pc 3 off (decide P) lv r = some (pc', lv', st'))
    (row : ∀ tgt : Nat, (pc : Int) + off = (tgt : Int) → (P → W p l e R s m args below meth c H locs cells slots Q (F0 m tgt ls (r.map (q_cv bs)))) → (¬ P → W p l e R s m args below meth c H locs cells slots Q (F0 m (pc + 3) ls (r.map (q_cv bs)))) → G)
    (kk : lv' = lv → W p l e R s m args below meth c H locs cells slots Q (F0 m pc' ls (st'.map (q_cv bs)))) : G := by
  unfold q_br at h
  by_cases h0 : 0 ≤ (pc : Int) + off
  · rw [if_pos h0] at h
    have h1 := Option.some.inj h
    have e1 : pc' = (if decide P = true then ((pc : Int) + off).toNat else pc + 3) := (congrArg Prod.fst h1).symm
    have e2 : lv' = lv := (congrArg (fun z => z.2.1) h1).symm
    have e3 : st' = r := (congrArg (fun z => z.2.2) h1).symm
    have K := kk e2
    rw [e3] at K
    refine row ((pc : Int) + off).toNat (by omega) (fun hp => ?_) (fun hp => ?_)
    · rw [e1, if_pos (decide_eq_true hp)] at K
      exact K
    · rw [e1, if_neg (by simpa using hp)] at K
      exact K
  · rw [if_neg h0] at h
    cases h
theorem q_pureW (hx : p.tables.exec = Jvm.exec) (hb : c.code = cc) {bs nL len : Nat} {raw i : Instr} {lv lv' : q_L} {st st' : List Value} {pc' : Nat} (hd : decode cc pc = .ok (raw, len)) (ho : q_ok1 raw len i = true) (hl : lv_has ls nL (q_cl bs lv))
    (h : q_pure nL pc len i lv st = some (pc', lv', st'))
    (kk : ∀ ls' : Array Slot, lv_has ls' nL (q_cl bs lv') → W p l e R s m args below meth c H locs cells slots Q (F0 m pc' ls' (st'.map (q_cv bs)))) : W p l e R s m args below meth c H locs cells slots Q (F0 m pc ls (st.map (q_cv bs))) := by
  unfold q_pure at h
  split at h
  · -- iconst
    simp only [q_ok1] at ho
    cases h
    split at ho
    · simp only [decide_eq_true_eq] at ho; obtain ⟨rfl, rfl⟩ := ho
      exact lv_iconst hx hb hd rfl (kk ls hl)
    · simp only [decide_eq_true_eq] at ho; obtain ⟨rfl, rfl, ho⟩ := ho
      exact lv_bipush hx hb hd ho (kk ls hl)
    · simp only [decide_eq_true_eq] at ho; obtain ⟨rfl, rfl, ho⟩ := ho
      exact lv_sipush hx hb hd ho (kk ls hl)
    · cases ho
  · -- goto_w: a long
    simp only [q_ok1] at ho
    cases h
    split at ho
    · simp only [decide_eq_true_eq] at ho; obtain ⟨rfl, rfl⟩ := ho
      exact lv_lconst hx hb hd (by simp [Int64.ofInt_eq_ofNat]) (kk ls hl)
    · cases ho
  · -- iload
    simp only [q_ok1] at ho
    split at h
    · rename_i hg
      cases h
      have hg2 := q_lv hl hg
      split at ho
      · simp only [decide_eq_true_eq] at ho; obtain ⟨rfl, rfl⟩ := ho
        exact lv_iload hx hb hd hg2 (kk ls hl)
      · simp only [decide_eq_true_eq] at ho; obtain ⟨ho, rfl⟩ := ho
        exact lv_iload_n hx hb hd ho hg2 (kk ls hl)
      · cases ho
    · cases h
  · -- lload
    simp only [q_ok1] at ho
    split at h
    · rename_i hg
      cases h
      have hg2 := q_lv hl hg
      split at ho
      · simp only [decide_eq_true_eq] at ho; obtain ⟨rfl, rfl⟩ := ho
        exact lv_lload hx hb hd hg2 (kk ls hl)
      · simp only [decide_eq_true_eq] at ho; obtain ⟨ho, rfl⟩ := ho
        exact lv_lload_n hx hb hd ho hg2 (kk ls hl)
      · cases ho
    · cases h
  · -- aload
    simp only [q_ok1] at ho
    split at h
    · rename_i hg
      cases h
      have hg2 := q_lv hl hg
      split at ho
      · simp only [decide_eq_true_eq] at ho; obtain ⟨rfl, rfl⟩ := ho
        exact lv_aload hx hb hd hg2 (kk ls hl)
      · simp only [decide_eq_true_eq] at ho; obtain ⟨ho, rfl⟩ := ho
        exact lv_aload_n hx hb hd ho hg2 (kk ls hl)
      · cases ho
    · rename_i hg
      cases h
      have hg2 := q_lv hl hg
      split at ho
      · simp only [decide_eq_true_eq] at ho; obtain ⟨rfl, rfl⟩ := ho
        exact lv_aload hx hb hd hg2 (kk ls hl)
      · simp only [decide_eq_true_eq] at ho; obtain ⟨ho, rfl⟩ := ho
        exact lv_aload_n hx hb hd ho hg2 (kk ls hl)
      · cases ho
    · cases h
  · -- istore
    simp only [q_ok1] at ho
    split at h
    · split at h
      · rename_i hk
        cases h
        split at ho
        · simp only [decide_eq_true_eq] at ho; obtain ⟨rfl, rfl⟩ := ho
          exact lv_istore hx hb hd hl hk (q_cl_s1 bs lv _ (.int _)) (fun ls' h' => kk ls' h')
        · simp only [decide_eq_true_eq] at ho; obtain ⟨ho, rfl⟩ := ho
          exact lv_istore_n hx hb hd ho hl hk (q_cl_s1 bs lv _ (.int _)) (fun ls' h' => kk ls' h')
        · cases ho
      · cases h
    · cases h
  · -- astore
    simp only [q_ok1] at ho
    split at h
    · split at h
      · rename_i hk
        cases h
        split at ho
        · simp only [decide_eq_true_eq] at ho; obtain ⟨rfl, rfl⟩ := ho
          exact lv_astore hx hb hd hl hk (q_cl_s1 bs lv _ (.ref _)) (fun ls' h' => kk ls' h')
        · simp only [decide_eq_true_eq] at ho; obtain ⟨ho, rfl⟩ := ho
          exact lv_astore_n hx hb hd ho hl hk (q_cl_s1 bs lv _ (.ref _)) (fun ls' h' => kk ls' h')
        · cases ho
      · cases h
    · cases h
  · -- lstore
    simp only [q_ok1] at ho
    split at h
    · split at h
      · rename_i hk
        cases h
        split at ho
        · simp only [decide_eq_true_eq] at ho; obtain ⟨rfl, rfl⟩ := ho
          exact lv_lstore hx hb hd hl hk (q_cl_s2 bs lv _ (.long _)) (fun ls' h' => kk ls' h')
        · simp only [decide_eq_true_eq] at ho; obtain ⟨ho, rfl⟩ := ho
          exact lv_lstore_n hx hb hd ho hl hk (q_cl_s2 bs lv _ (.long _)) (fun ls' h' => kk ls' h')
        · cases ho
      · cases h
    · cases h
  · -- iinc
    simp only [q_ok1, decide_eq_true_eq] at ho
    obtain ⟨rfl, rfl⟩ := ho
    split at h
    · rename_i hg
      split at h
      · rename_i hk
        cases h
        obtain ⟨j, hj⟩ := q_lvx (bs := bs) hg
        exact lv_iinc hx hb hd hl hj rfl hk (q_cl_s1 bs lv _ (.int _)) (fun ls' h' => kk ls' h')
      · cases h
    · cases h
  · -- iadd
    simp only [q_ok1, decide_eq_true_eq] at ho
    obtain ⟨rfl, rfl⟩ := ho
    split at h
    · cases h
      exact lv_iadd hx hb hd (kk ls hl)
    · cases h
  · -- isub
    simp only [q_ok1, decide_eq_true_eq] at ho
    obtain ⟨rfl, rfl⟩ := ho
    split at h
    · cases h
      exact lv_isub hx hb hd (kk ls hl)
    · cases h
  · -- imul
    simp only [q_ok1, decide_eq_true_eq] at ho
    obtain ⟨rfl, rfl⟩ := ho
    split at h
    · cases h
      exact lv_imul hx hb hd (kk ls hl)
    · cases h
  · -- iand
    simp only [q_ok1, decide_eq_true_eq] at ho
    obtain ⟨rfl, rfl⟩ := ho
    split at h
    · cases h
      exact lv_iand hx hb hd (kk ls hl)
    · cases h
  · -- ior
    simp only [q_ok1, decide_eq_true_eq] at ho
    obtain ⟨rfl, rfl⟩ := ho
    split at h
    · cases h
      exact lv_ior hx hb hd (kk ls hl)
    · cases h
  · -- ixor
    simp only [q_ok1, decide_eq_true_eq] at ho
    obtain ⟨rfl, rfl⟩ := ho
    split at h
    · cases h
      exact lv_ixor hx hb hd (kk ls hl)
    · cases h
  · -- ishl
    simp only [q_ok1, decide_eq_true_eq] at ho
    obtain ⟨rfl, rfl⟩ := ho
    split at h
    · cases h
      exact lv_ishl hx hb hd (kk ls hl)
    · cases h
  · -- ishr
    simp only [q_ok1, decide_eq_true_eq] at ho
    obtain ⟨rfl, rfl⟩ := ho
    split at h
    · cases h
      exact lv_ishr hx hb hd (kk ls hl)
    · cases h
  · -- iushr
    simp only [q_ok1, decide_eq_true_eq] at ho
    obtain ⟨rfl, rfl⟩ := ho
    split at h
    · cases h
      exact lv_iushr hx hb hd rfl (kk ls hl)
    · cases h
  · -- ladd
    simp only [q_ok1, decide_eq_true_eq] at ho
    obtain ⟨rfl, rfl⟩ := ho
    split at h
    · cases h
      exact lv_ladd hx hb hd (kk ls hl)
    · cases h
  · -- lsub
    simp only [q_ok1, decide_eq_true_eq] at ho
    obtain ⟨rfl, rfl⟩ := ho
    split at h
    · cases h
      exact lv_lsub hx hb hd (kk ls hl)
    · cases h
  · -- lmul
    simp only [q_ok1, decide_eq_true_eq] at ho
    obtain ⟨rfl, rfl⟩ := ho
    split at h
    · cases h
      exact lv_lmul hx hb hd (kk ls hl)
    · cases h
  · -- land
    simp only [q_ok1, decide_eq_true_eq] at ho
    obtain ⟨rfl, rfl⟩ := ho
    split at h
    · cases h
      exact lv_land hx hb hd (kk ls hl)
    · cases h
  · -- lor
    simp only [q_ok1, decide_eq_true_eq] at ho
    obtain ⟨rfl, rfl⟩ := ho
    split at h
    · cases h
      exact lv_lor hx hb hd (kk ls hl)
    · cases h
  · -- lxor
    simp only [q_ok1, decide_eq_true_eq] at ho
    obtain ⟨rfl, rfl⟩ := ho
    split at h
    · cases h
      exact lv_lxor hx hb hd (kk ls hl)
    · cases h
  · -- idiv
    simp only [q_ok1, decide_eq_true_eq] at ho
    obtain ⟨rfl, rfl⟩ := ho
    split at h
    · split at h
      · cases h
      · rename_i hne
        cases h
        exact lv_idiv hx hb hd hne (kk ls hl)
    · cases h
  · -- irem
    simp only [q_ok1, decide_eq_true_eq] at ho
    obtain ⟨rfl, rfl⟩ := ho
    split at h
    · split at h
      · cases h
      · rename_i hne
        cases h
        exact lv_irem hx hb hd hne (kk ls hl)
    · cases h
  · -- ldiv
    simp only [q_ok1, decide_eq_true_eq] at ho
    obtain ⟨rfl, rfl⟩ := ho
    split at h
    · split at h
      · cases h
      · rename_i hne
        cases h
        exact lv_ldiv hx hb hd hne (kk ls hl)
    · cases h
  · -- lrem
    simp only [q_ok1, decide_eq_true_eq] at ho
    obtain ⟨rfl, rfl⟩ := ho
    split at h
    · split at h
      · cases h
      · rename_i hne
        cases h
        exact lv_lrem hx hb hd hne (kk ls hl)
    · cases h
  · -- lshl
    simp only [q_ok1, decide_eq_true_eq] at ho
    obtain ⟨rfl, rfl⟩ := ho
    split at h
    · cases h
      exact lv_lshl hx hb hd rfl (kk ls hl)
    · cases h
  · -- lshr
    simp only [q_ok1, decide_eq_true_eq] at ho
    obtain ⟨rfl, rfl⟩ := ho
    split at h
    · cases h
      exact lv_lshr hx hb hd rfl (kk ls hl)
    · cases h
  · -- lushr
    simp only [q_ok1, decide_eq_true_eq] at ho
    obtain ⟨rfl, rfl⟩ := ho
    split at h
    · cases h
      exact lv_lushr hx hb hd rfl (kk ls hl)
    · cases h
  · -- i2l
    simp only [q_ok1, decide_eq_true_eq] at ho
    obtain ⟨rfl, rfl⟩ := ho
    split at h
    · cases h
      exact lv_i2l hx hb hd rfl (kk ls hl)
    · cases h
  · -- l2i
    simp only [q_ok1, decide_eq_true_eq] at ho
    obtain ⟨rfl, rfl⟩ := ho
    split at h
    · cases h
      exact lv_l2i hx hb hd rfl (kk ls hl)
    · cases h
  · -- i2b
    simp only [q_ok1, decide_eq_true_eq] at ho
    obtain ⟨rfl, rfl⟩ := ho
    split at h
    · cases h
      exact lv_i2b hx hb hd rfl (kk ls hl)
    · cases h
  · -- i2s
    simp only [q_ok1, decide_eq_true_eq] at ho
    obtain ⟨rfl, rfl⟩ := ho
    split at h
    · cases h
      exact lv_i2s hx hb hd rfl (kk ls hl)
    · cases h
  · -- i2c
    simp only [q_ok1, decide_eq_true_eq] at ho
    obtain ⟨rfl, rfl⟩ := ho
    split at h
    · cases h
      exact lv_i2c hx hb hd rfl (kk ls hl)
    · cases h
  · -- ineg
    simp only [q_ok1, decide_eq_true_eq] at ho
    obtain ⟨rfl, rfl⟩ := ho
    split at h
    · cases h
      exact lv_ineg hx hb hd (kk ls hl)
    · cases h
  · -- lneg
    simp only [q_ok1, decide_eq_true_eq] at ho
    obtain ⟨rfl, rfl⟩ := ho
    split at h
    · cases h
      exact lv_lneg hx hb hd (kk ls hl)
    · cases h
  · -- lcmp
    simp only [q_ok1, decide_eq_true_eq] at ho
    obtain ⟨rfl, rfl⟩ := ho
    split at h
    · cases h
      exact W.lcmp hx hb hd (kk ls hl)
    · cases h
  · -- dup
    simp only [q_ok1, decide_eq_true_eq] at ho
    obtain ⟨rfl, rfl⟩ := ho
    split at h
    · split at h
      · rename_i hc
        cases h
        exact lv_dup hx hb hd (by rw [q_cv_cat]; exact hc) (kk ls hl)
      · cases h
    · cases h
  · -- pop
    simp only [q_ok1, decide_eq_true_eq] at ho
    obtain ⟨rfl, rfl⟩ := ho
    split at h
    · split at h
      · rename_i hc
        cases h
        exact lv_pop hx hb hd (by rw [q_cv_cat]; exact hc) (kk ls hl)
      · cases h
    · cases h
  · -- dup2
    simp only [q_ok1, decide_eq_true_eq] at ho
    obtain ⟨rfl, rfl⟩ := ho
    split at h
    · split at h
      · rename_i hc
        cases h
        exact lv_dup2_2 hx hb hd (by rw [q_cv_cat]; exact hc) (kk ls hl)
      · split at h
        · split at h
          · rename_i hc
            cases h
            exact lv_dup2_11 hx hb hd (by rw [q_cv_cat]; exact hc.1) (by rw [q_cv_cat]; exact hc.2) (kk ls hl)
          · cases h
        · cases h
    · cases h
  · -- pop2
    simp only [q_ok1, decide_eq_true_eq] at ho
    obtain ⟨rfl, rfl⟩ := ho
    split at h
    · split at h
      · rename_i hc
        cases h
        exact lv_pop2_2 hx hb hd (by rw [q_cv_cat]; exact hc) (kk ls hl)
      · cases h
    · cases h
  · -- ifCond
    simp only [q_ok1, decide_eq_true_eq] at ho
    obtain ⟨rfl, rfl⟩ := ho
    split at h
    · rename_i cd off _ x r
      cases cd <;> simp only [q_c] at h
      · exact q_brW h (fun t ht k1 k2 => lv_if_eq hx hb hd ht k1 k2) (fun q => kk ls (q ▸ hl))
      · exact q_brW h (fun t ht k1 k2 => lv_if_ne hx hb hd ht k1 (fun a => k2 (fun b => b a))) (fun q => kk ls (q ▸ hl))
      · exact q_brW h (fun t ht k1 k2 => lv_if_lt hx hb hd ht k1 k2) (fun q => kk ls (q ▸ hl))
      · exact q_brW h (fun t ht k1 k2 => lv_if_ge hx hb hd ht k1 k2) (fun q => kk ls (q ▸ hl))
      · exact q_brW h (fun t ht k1 k2 => lv_if_gt hx hb hd ht k1 k2) (fun q => kk ls (q ▸ hl))
      · exact q_brW h (fun t ht k1 k2 => lv_if_le hx hb hd ht k1 k2) (fun q => kk ls (q ▸ hl))
    · cases h
  · -- if_icmp
    simp only [q_ok1, decide_eq_true_eq] at ho
    obtain ⟨rfl, rfl⟩ := ho
    split at h
    · rename_i cd off _ y x r
      cases cd <;> simp only [q_c] at h
      · exact q_brW h (fun t ht k1 k2 => lv_icmp_eq hx hb hd ht k1 k2) (fun q => kk ls (q ▸ hl))
      · exact q_brW h (fun t ht k1 k2 => lv_icmp_ne hx hb hd ht k1 (fun a => k2 (fun b => b a))) (fun q => kk ls (q ▸ hl))
      · exact q_brW h (fun t ht k1 k2 => lv_icmp_lt hx hb hd ht k1 k2) (fun q => kk ls (q ▸ hl))
      · exact q_brW h (fun t ht k1 k2 => lv_icmp_ge hx hb hd ht k1 k2) (fun q => kk ls (q ▸ hl))
      · exact q_brW h (fun t ht k1 k2 => lv_icmp_gt hx hb hd ht k1 k2) (fun q => kk ls (q ▸ hl))
      · exact q_brW h (fun t ht k1 k2 => lv_icmp_le hx hb hd ht k1 k2) (fun q => kk ls (q ▸ hl))
    · cases h
  · -- goto
    simp only [q_ok1, decide_eq_true_eq] at ho
    obtain ⟨rfl, rfl⟩ := ho
    obtain ⟨ht, rfl, rfl⟩ := q_toW lv h
    exact lv_goto hx hb hd ht (kk ls hl)
  · -- tableswitch
    simp only [q_ok1, decide_eq_true_eq] at ho
    obtain rfl := ho
    split at h
    · split at h
      · rename_i hc
        obtain ⟨ht, rfl, rfl⟩ := q_toW lv h
        exact lv_tableOut hx hb hd hc ht (kk ls hl)
      · rename_i hc
        split at h
        · rename_i hoff
          obtain ⟨ht, rfl, rfl⟩ := q_toW lv h
          exact lv_tableIn hx hb hd (fun q => hc (Or.inl q)) (fun q => hc (Or.inr q)) hoff ht (kk ls hl)
        · cases h
    · cases h
  · -- lookupswitch
    simp only [q_ok1, decide_eq_true_eq] at ho
    obtain rfl := ho
    split at h
    · split at h
      · rename_i hc
        obtain ⟨ht, rfl, rfl⟩ := q_toW lv h
        exact lv_lookup hx hb hd hc rfl ht (kk ls hl)
      · cases h
    · cases h
  · cases h
end QPURE
end
section
/-! THE PROGRAM's DATA: the tables' words, the classes, the arrays' types, the methods, the links to private members of nest mates -/
abbrev q_I : Type := Nat × Instr × Nat × Instr × Nat
abbrev q_MI : Type := MethodName × ByteArray × Nat × Option FieldType × List q_I × (Nat × Nat × Nat × Nat) × (Nat × Nat × Nat × Nat)
abbrev q_G : Type := List (List Cond) × List vw_C × (Nat → Nat → FieldType) × List FieldType × List q_MI × List (String × Nat × MethodName × String)
def q_gT (G : q_G) : List (List Cond) := G.1
def q_tat (G : q_G) (pos : Nat) : Option Cond := match (q_gT G)[pos / 1000]? with
  | some l => l[pos % 1000]?
  | none => none
def q_gC (G : q_G) : List vw_C := G.2.1
def q_gY (G : q_G) : Nat → Nat → FieldType := G.2.2.1
def q_gA (G : q_G) : List FieldType := G.2.2.2.1
def q_gM (G : q_G) : List q_MI := G.2.2.2.2.1
def q_gN (G : q_G) : List (String × Nat × MethodName × String) := G.2.2.2.2.2
def q_T (G : q_G) : List Cond := (q_gT G).flatten.filter goodWord
theorem q_T_at {G : q_G} {pos : Nat} {w : Cond} (h : q_tat G pos = some w) (hg : goodWord w = true) : w ∈ q_T G := by
  unfold q_tat at h
  split at h
  · rename_i l hl
    exact List.mem_filter.mpr ⟨List.mem_flatten.mpr ⟨l, List.mem_of_getElem? hl, List.mem_of_getElem? h⟩, hg⟩
  · cases h
def q_tyl (G : q_G) (tc : Nat → ClassId) : List (ClassId × FieldType) := (q_gA G).mapIdx (fun t ty => (tc t, ty))
theorem q_tyl_get {G : q_G} {tc : Nat → ClassId} {t : Nat} {ty : FieldType} (h : (q_gA G)[t]? = some ty) : (q_tyl G tc)[t]? = some (tc t, ty) := by simp [q_tyl, h]
def q_sys : List Cond := [.native arraycopyName, .static arraycopyName, .initialized "java/lang/System", .instanceMethod Lib.objectInit, .code Lib.objectInit ⟨#[0xb1]⟩ 1 none]
def q_GV (G : q_G) : Prop := (∀ (ci : Nat) (C : String) (T : u_T) (N : Nat), (q_gC G)[ci]? = some (C, T, N) → (∀ w ∈ u_ws C T N, w ∈ q_T G) ∧ (∀ k, k < N → parseFieldDescriptor (T k).2.2.1 = some (q_gY G ci k)) ∧ (∀ a, a < N → ∀ b, b < N → a ≠ b → (T a).2.1 ≠ (T b).2.1) ∧ Cond.instantiable C N ∈ q_T G ∧ Cond.initialized C ∈ q_T G) ∧ (∀ w ∈ q_sys, w ∈ q_T G)
def q_tag (a : ArrayType) : Nat := match a with
  | .int => 0
  | .long => 1
  | .byte => 2
  | .boolean => 3
  | _ => 99
def q_cats (r : List Value) : Nat := (r.map fun v => v.category).sum
theorem q_cats_cv (bs : Nat) (r : List Value) : ((r.map (q_cv bs)).map fun v => v.category).sum = q_cats r := by
  simp only [q_cats, List.map_map]
  congr 1
  apply List.map_congr_left
  intro v _
  exact q_cv_cat bs v
def q_cpy (r : List Value) (m : q_M) (j k sp dp w : Nat) : Option (List Value × q_M) := match m[j]?, m[k]? with
  | some (.inl (t0, n0, .inl f)), some (.inl (t1, n1, .inl g)) => if t0 = 0 ∧ t1 = 0 ∧ sp + w ≤ n0 ∧ dp + w ≤ n1 then some (r, m.set k (.inl (t1, n1, .inl (va_cpy f g sp dp w)))) else none
  | some (.inl (t0, n0, .inr (.inl f))), some (.inl (t1, n1, .inr (.inl g))) => if t0 = 1 ∧ t1 = 1 ∧ sp + w ≤ n0 ∧ dp + w ≤ n1 then some (r, m.set k (.inl (t1, n1, .inr (.inl (va_cpy f g sp dp w))))) else none
  | _, _ => none
def q_copy (fr lo : Nat) (st : List Value) (m : q_M) : Option (List Value × q_M) := match st with
  | .int w :: .int dp :: .ref k :: .int sp :: .ref j :: r => if 1 ≤ fr ∧ q_cats r + 18 ≤ lo ∧ ¬ sp < 0 ∧ ¬ dp < 0 ∧ ¬ w < 0 then q_cpy r m j k sp.toNatClampNeg dp.toNatClampNeg w.toNatClampNeg else none
  | _ => none
/-- reading and writing cells: the stack and the memory behind it -/
def q_mem (G : q_G) (fr lo : Nat) (i : Instr) (st : List Value) (m : q_M) : Option (List Value × q_M) := match i with
  | .getfield n => (match st with | .ref k :: r => (match m[k]? with | some (.inr (ci, fs)) => if ci = n / 64 then (match fs[n % 64]? with | some v => some (v :: r, m) | none => none) else none | _ => none) | _ => none)
  | .putfield n => (match st with | v :: .ref k :: r => (match m[k]? with | some (.inr (ci, fs)) => if ci = n / 64 ∧ n % 64 < fs.length ∧ narrow (q_gY G ci (n % 64)) v = v ∧ fits (q_gY G ci (n % 64)) v = true then some (r, m.set k (.inr (ci, fs.set (n % 64) v))) else none | _ => none) | _ => none)
  | .iaload => (match st with | .int j :: .ref k :: r => (match m[k]? with | some (.inl (t, n, .inl f)) => if t = 0 ∧ q_in j n = true then some (.int (f j.toNatClampNeg) :: r, m) else none | _ => none) | _ => none)
  | .laload => (match st with | .int j :: .ref k :: r => (match m[k]? with | some (.inl (t, n, .inr (.inl f))) => if t = 1 ∧ q_in j n = true then some (.long (f j.toNatClampNeg) :: r, m) else none | _ => none) | _ => none)
  | .baload => (match st with | .int j :: .ref k :: r => (match m[k]? with | some (.inl (t, n, .inl f)) => if (t = 2 ∨ t = 3) ∧ q_in j n = true then some (.int (f j.toNatClampNeg) :: r, m) else none | _ => none) | _ => none)
  | .aaload => (match st with | .int j :: .ref k :: r => (match m[k]? with | some (.inl (t, n, .inr (.inr f))) => if 4 ≤ t ∧ q_in j n = true ∧ t < (q_gA G).length then some (va_rf (f j.toNatClampNeg) :: r, m) else none | _ => none) | _ => none)
  | .iastore => (match st with | .int x :: .int j :: .ref k :: r => (match m[k]? with | some (.inl (t, n, .inl f)) => if t = 0 ∧ q_in j n = true then some (r, m.set k (.inl (t, n, .inl (upd f j.toNatClampNeg x)))) else none | _ => none) | _ => none)
  | .lastore => (match st with | .long x :: .int j :: .ref k :: r => (match m[k]? with | some (.inl (t, n, .inr (.inl f))) => if t = 1 ∧ q_in j n = true then some (r, m.set k (.inl (t, n, .inr (.inl (vp_updL f j.toNatClampNeg x))))) else none | _ => none) | _ => none)
  | .bastore => (match st with | .int x :: .int j :: .ref k :: r => (match m[k]? with | some (.inl (t, n, .inl f)) => if t = 2 ∧ q_in j n = true then some (r, m.set k (.inl (t, n, .inl (upd f j.toNatClampNeg (vp_nar .byte x))))) else if t = 3 ∧ q_in j n = true then some (r, m.set k (.inl (t, n, .inl (upd f j.toNatClampNeg (vp_nar .boolean x))))) else none | _ => none) | _ => none)
  | .aastore => (match st with | .ref v :: .int j :: .ref k :: r => (match m[k]? with | some (.inl (t, n, .inr (.inr f))) => (match m[v]? with | some (.inr (ci, _)) => if 4 ≤ t ∧ q_in j n = true ∧ ((q_gC G)[ci]?.map fun z => FieldType.object z.1) = (q_gA G)[t]? ∧ ((q_gA G)[t]?).isSome = true then some (r, m.set k (.inl (t, n, .inr (.inr (va_up f j.toNatClampNeg (some v)))))) else none | _ => none) | _ => none) | _ => none)
  | .arraylength => (match st with | .ref k :: r => (match m[k]? with | some (.inl (t, n, _)) => if t < (q_gA G).length then some (.int (Int32.ofNat n) :: r, m) else none | _ => none) | _ => none)
  | .invokedynamic n => if n = 0 then (match st with | .ref _ :: r => if 1 ≤ fr ∧ q_cats r + 12 ≤ lo then some (r, m) else none | _ => none)
      else if n = 1 then q_copy fr lo st m
      else none
  | _ => none
/-- making cells: the stack, and the new cell -/
def q_new (G : q_G) (i : Instr) (st : List Value) (m : q_M) : Option (List Value × q_E) := match i with
  | .new ci => (match (q_gC G)[ci]? with | some (_, _, N) => some (.ref m.length :: st, .inr (ci, (List.range N).map (fun k => defaultValue (q_gY G ci k)))) | none => none)
  | .newarray a => (match st with | .int w :: r => if ¬ w < 0 ∧ w.toNatClampNeg ≤ 60000000 ∧ q_tag a < 4 then some (.ref m.length :: r, .inl (q_tag a, w.toNatClampNeg, if a = .long then .inr (.inl (fun _ => 0)) else .inl (fun _ => 0))) else none | _ => none)
  | .anewarray t => (match st with | .int w :: r => if ¬ w < 0 ∧ w.toNatClampNeg ≤ 60000000 then some (.ref m.length :: r, .inl (t, w.toNatClampNeg, .inr (.inr (fun _ => none)))) else none | _ => none)
  | _ => none
/-- the resolved instruction is what the bytes and the links say -/
def q_ok2 (G : q_G) (own : String) (kd : Nat) (raw : Instr) (len : Nat) (i : Instr) (pos : Nat) : Bool := match i with
  | .getfield n => (match raw with | .getfield x => (match (q_gC G)[n / 64]? with | some (C, T, N) => decide (len = 3 ∧ n % 64 < N ∧ (T (n % 64)).1 = C ∧ q_tat G pos = some (.fieldLink own x C (T (n % 64)).2.1 (T (n % 64)).2.2.1)) | none => false) | _ => false)
  | .putfield n => (match raw with | .putfield x => (match (q_gC G)[n / 64]? with | some (C, T, N) => decide (len = 3 ∧ n % 64 < N ∧ (T (n % 64)).1 = C ∧ ((T (n % 64)).2.2.2 = false ∨ (kd = 2 ∧ C = own)) ∧ q_tat G pos = some (.fieldLink own x C (T (n % 64)).2.1 (T (n % 64)).2.2.1)) | none => false) | _ => false)
  | .iaload => decide (raw = i ∧ len = 1 ∧ (q_gA G)[0]? = some .int)
  | .laload => decide (raw = i ∧ len = 1 ∧ (q_gA G)[1]? = some .long)
  | .baload => decide (raw = i ∧ len = 1 ∧ (q_gA G)[2]? = some .byte ∧ (q_gA G)[3]? = some .boolean)
  | .aaload => decide (raw = i ∧ len = 1 ∧ ((q_gA G).drop 4).all (fun z => match z with | .object _ => true | _ => false) = true ∧ 4 < (q_gA G).length)
  | .iastore => decide (raw = i ∧ len = 1 ∧ (q_gA G)[0]? = some .int)
  | .lastore => decide (raw = i ∧ len = 1 ∧ (q_gA G)[1]? = some .long)
  | .bastore => decide (raw = i ∧ len = 1 ∧ (q_gA G)[2]? = some .byte ∧ (q_gA G)[3]? = some .boolean)
  | .aastore => decide (raw = i ∧ len = 1)
  | .arraylength => decide (raw = i ∧ len = 1)
  | .invokedynamic n => (match raw with
      | .invokespecial x => decide (n = 0 ∧ len = 3 ∧ q_tat G pos = some (.methodLink own x Lib.objectInit))
      | .invokestatic x => decide (n = 1 ∧ len = 3 ∧ (q_gA G)[0]? = some .int ∧ (q_gA G)[1]? = some .long ∧ q_tat G pos = some (.methodLink own x arraycopyName))
      | _ => false)
  | _ => false
def q_ok3 (G : q_G) (own : String) (raw : Instr) (len : Nat) (i : Instr) (pos : Nat) : Bool := match i with
  | .new ci => (match raw with | .new x => (match (q_gC G)[ci]? with | some (C, _, _) => decide (len = 3 ∧ q_tat G pos = some (.classLink own x C)) | none => false) | _ => false)
  | .newarray a => decide (raw = i ∧ len = 2 ∧ q_tat G pos = some (.arrayClass (Op.newarray.typeOf a)) ∧ (q_gA G)[q_tag a]? = some (Op.newarray.typeOf a))
  | .anewarray t => (match raw with | .anewarray x => (match q_tat G pos with | some (.classLink o y C) => decide (len = 3 ∧ o = own ∧ y = x ∧ (q_gA G)[t]? = some (.object C)) | _ => false) | _ => false)
  | _ => false
/-- constants out of the pool -/
def q_ok5 (G : q_G) (own : String) (raw : Instr) (len : Nat) (i : Instr) (pos : Nat) : Bool := match i with
  | .sipush n => (match raw with | .ldc x => decide (len = 2 ∧ q_tat G pos = some (.constant own x (Int32.ofInt n))) | .ldc_w x => decide (len = 3 ∧ q_tat G pos = some (.constant own x (Int32.ofInt n))) | _ => false)
  | .jsr_w n => (match raw with | .ldc2_w x => decide (len = 3 ∧ q_tat G pos = some (.constantLong own x (Int64.ofInt n))) | _ => false)
  | _ => false
def q_lk (i : Instr) (st : List Value) : Option (List Value) := match i with
  | .sipush n => some (.int (Int32.ofInt n) :: st)
  | .jsr_w n => some (.long (Int64.ofInt n) :: st)
  | _ => none
/-- what kind of step: 0 pure, 1 memory, 2 a new cell, 3 call or return, 4 a constant out of the pool -/
def q_grp (i : Instr) : Nat := match i with
  | .getfield _ => 1
  | .putfield _ => 1
  | .iaload => 1
  | .laload => 1
  | .baload => 1
  | .aaload => 1
  | .iastore => 1
  | .lastore => 1
  | .bastore => 1
  | .aastore => 1
  | .arraylength => 1
  | .invokedynamic _ => 1
  | .new _ => 2
  | .newarray _ => 2
  | .anewarray _ => 2
  | .ireturn => 3
  | .lreturn => 3
  | .return_ => 3
  | .invokevirtual _ => 3
  | .invokestatic _ => 3
  | .invokespecial _ => 3
  | .sipush _ => 4
  | .jsr_w _ => 4
  | _ => 0
def q_mY (M : q_MI) : MethodName := M.1
def q_mB (M : q_MI) : ByteArray := M.2.1
def q_mL (M : q_MI) : Nat := M.2.2.1
def q_mR (M : q_MI) : Option FieldType := M.2.2.2.1
def q_mC (M : q_MI) : List q_I := M.2.2.2.2.1
def q_mF (M : q_MI) : Nat := M.2.2.2.2.2.1.1
def q_mO (M : q_MI) : Nat := M.2.2.2.2.2.1.2.1
def q_mN (M : q_MI) : Nat := M.2.2.2.2.2.1.2.2.1
def q_mK (M : q_MI) : Nat := M.2.2.2.2.2.1.2.2.2
def q_mP (M : q_MI) : Nat × Nat × Nat × Nat := M.2.2.2.2.2.2
def q_lnk (G : q_G) (own : String) (x : Nat) (y : MethodName) (pos : Nat) : Bool := if pos < 100000 then decide (q_tat G pos = some (.methodLink own x y)) else (match (q_gN G)[pos - 100000]? with | some z => decide (z.1 = own ∧ z.2.1 = x ∧ z.2.2.1 = y) | none => false)
def q_ok4 (G : q_G) (own : String) (raw : Instr) (len : Nat) (i : Instr) (pos : Nat) : Bool := match i with
  | .ireturn => decide (raw = i ∧ len = 1)
  | .lreturn => decide (raw = i ∧ len = 1)
  | .return_ => decide (raw = i ∧ len = 1)
  | .invokevirtual k => (match raw with | .invokevirtual x => (match (q_gM G)[k]? with | some M => decide (len = 3 ∧ q_mK M = 0 ∧ q_tat G pos = some (.methodLink own x (q_mY M))) | none => false) | _ => false)
  | .invokestatic k => (match raw with | .invokestatic x => (match (q_gM G)[k]? with | some M => decide (len = 3 ∧ q_mK M = 1 ∧ q_lnk G own x (q_mY M) pos = true) | none => false) | _ => false)
  | .invokespecial k => (match raw with | .invokespecial x => (match (q_gM G)[k]? with | some M => decide (len = 3 ∧ q_mK M = 2 ∧ q_lnk G own x (q_mY M) pos = true) | none => false) | _ => false)
  | _ => false
def q_okI (G : q_G) (own : String) (kd : Nat) (I : q_I) : Bool := match q_grp I.2.2.2.1 with
  | 0 => q_ok1 I.2.1 I.2.2.1 I.2.2.2.1
  | 1 => q_ok2 G own kd I.2.1 I.2.2.1 I.2.2.2.1 I.2.2.2.2
  | 2 => q_ok3 G own I.2.1 I.2.2.1 I.2.2.2.1 I.2.2.2.2
  | 3 => q_ok4 G own I.2.1 I.2.2.1 I.2.2.2.1 I.2.2.2.2
  | _ => q_ok5 G own I.2.1 I.2.2.1 I.2.2.2.1 I.2.2.2.2
def q_okC (G : q_G) (M : q_MI) : Bool := (q_mC M).all (fun I => decide (decode (q_mB M) I.1 = .ok (I.2.1, I.2.2.1)) && q_okI G (q_mY M).cls (q_mK M) I)
def q_okH (G : q_G) (M : q_MI) : Bool := plainFor (q_mY M) && decide ((q_mY M).cls ≠ "java/lang/invoke/MethodHandle" ∧ (q_mY M).cls ≠ "java/lang/invoke/VarHandle" ∧ (parseMethodDescriptor (q_mY M).desc).map (fun d => d.parameters.length) = some (q_mN M))
  && decide (q_tat G (q_mP M).1 = some (.code (q_mY M) (q_mB M) (q_mL M) (q_mR M))) && decide (q_tat G (q_mP M).2.2.2 = some (.initialized (q_mY M).cls))
  && (match q_mK M with
    | 0 => decide (q_tat G (q_mP M).2.1 = some (.instanceMethod (q_mY M)) ∧ q_tat G (q_mP M).2.2.1 = some (.selects (q_mY M).cls (q_mY M) (q_mY M)))
    | 1 => decide (q_tat G (q_mP M).2.1 = some (.static (q_mY M)))
    | _ => decide (q_tat G (q_mP M).2.1 = some (.instanceMethod (q_mY M)) ∧ (q_mY M).name = "<init>" ∧ q_mR M = none))
def q_okM (G : q_G) (M : q_MI) : Prop := q_okH G M = true ∧ q_okC G M = true
def q_fd (C : List q_I) (pc : Nat) : Option q_I := match C with
  | [] => none
  | I :: C => if I.1 = pc then some I else q_fd C pc
theorem q_fd_mem : ∀ {C : List q_I} {pc : Nat} {I : q_I}, q_fd C pc = some I → I ∈ C ∧ I.1 = pc
  | [], pc, I, h => by simp [q_fd] at h
  | J :: C, pc, I, h => by
    unfold q_fd at h
    split at h
    · cases h
      exact ⟨List.mem_cons_self, by assumption⟩
    · exact ⟨List.mem_cons_of_mem _ (q_fd_mem h).1, (q_fd_mem h).2⟩
def q_na (M : q_MI) : Nat := match q_mK M with
  | 1 => q_mN M
  | _ => q_mN M + 1
def q_rcv (G : q_G) (M : q_MI) (as : List Value) (m : q_M) : Bool := match q_mK M with
  | 1 => true
  | 0 => (match as with | .ref a :: _ => (match m[a]? with | some (.inr (ci, _)) => decide ((q_gC G)[ci]?.map (fun z => z.1) = some (q_mY M).cls) | _ => false) | _ => false)
  | _ => (match as with | .ref _ :: _ => true | _ => false)
/-- a call: the method, its arguments (the object first), what stays on the stack -/
def q_call (G : q_G) (M : q_MI) (k : Nat) (st : List Value) (m : q_M) : Option (q_MI × List Value × List Value) := match (q_gM G)[k]? with
  | none => none
  | some M1 => if q_na M1 ≤ st.length ∧ q_cats (st.drop (q_na M1)) ≤ 8 ∧ q_mF M1 + 1 ≤ q_mF M ∧ 8 + (q_mL M1 + 11) + q_mO M1 ≤ q_mO M ∧ q_cats (st.take (q_na M1)) ≤ q_mL M1 ∧ q_rcv G M1 (st.take (q_na M1)).reverse m = true
    then some (M1, (st.take (q_na M1)).reverse, st.drop (q_na M1)) else none
/-- what a method gives back, by its last instruction -/
def q_retn (M : q_MI) (i : Instr) (st : List Value) : Option (Option Value) := match i with
  | .ireturn => (match st with | [.int v] => (match q_mR M with | some ty => if narrow ty (.int v) = .int v then some (some (.int v)) else none | none => none) | _ => none)
  | .lreturn => (match st with | [.long v] => if q_mR M = some .long then some (some (.long v)) else none | _ => none)
  | .return_ => (match st with | [] => if q_mR M = none then some none else none | _ => none)
  | _ => none
def q_cnum (i : Instr) : Option Nat := match i with
  | .invokevirtual k => some k
  | .invokestatic k => some k
  | .invokespecial k => some k
  | _ => none
/-- the pure machine: n steps at most, calls and all -/
def q_run (G : q_G) : Nat → q_MI → Nat → q_L → List Value → q_M → Option (Option Value × q_M)
  | 0, _, _, _, _, _ => none
  | n + 1, M, pc, l, st, m => match q_fd (q_mC M) pc with
    | none => none
    | some (_, _, len, i, _) => match q_grp i with
      | 0 => (match q_pure (q_mL M) pc len i l st with | some (pc1, l1, st1) => q_run G n M pc1 l1 st1 m | none => none)
      | 1 => (match q_mem G (q_mF M) (q_mO M) i st m with | some (st1, m1) => q_run G n M (pc + len) l st1 m1 | none => none)
      | 2 => (match q_new G i st m with | some (st1, x) => q_run G n M (pc + len) l st1 (m ++ [x]) | none => none)
      | 3 => (match q_cnum i with
          | some k => (match q_call G M k st m with
              | some (M1, as, rest) => (match q_run G n M1 0 (lv_args 0 as) [] m with | some (r, m1) => q_run G n M (pc + len) l (r.toList ++ rest) m1 | none => none)
              | none => none)
          | none => (match q_retn M i st with | some r => some (r, m) | none => none))
      | _ => (match q_lk i st with | some st1 => q_run G n M (pc + len) l st1 m | none => none)
end
section
section QMEM
variable {p : Program} {l : Launch} {e : Env} {R : Room} {s : State} {m : MethodId} {args : Array Value} {below : List Frame} {meth : Method} {c : Code} {H : Heap} {locs : List Loc} {cells slots : Nat} {Q : State → Prop}
variable {cc : ByteArray} {pc : Nat} {ls : Array Slot} {G : q_G} {D : va_G} {bs : Nat} {tc : Nat → ClassId}
theorem q_sized {g : JFrame} (k : H.size ≤ s.heap.size + cells → W p l e R s m args below meth c H locs cells slots Q g) : W p l e R s m args below meth c H locs cells slots Q g := fun T hT X => k (by rw [← hT]; exact X.heapSize) T hT X
theorem q_low {cl : List vw_C} {q q0 : q_M} {H0 : Heap} (hw : va_P D cl (q_cw bs tc q) H) (hS : va_S (fun z => bs ≤ z) H0 H locs) (h0 : H0.size = bs + q0.length) : bs + q.length ≤ H.size := by
  by_cases hq : q.length = 0
  · have := hS.1
    omega
  · have hk : q.length - 1 < q.length := by omega
    have h1 := (hw (q.length - 1) _ (q_cw_get (bs := bs) (tc := tc) (List.getElem?_eq_getElem hk))).lt
    simp only at h1
    omega
theorem q_Wset {cl : List vw_C} {q : q_M} {k : Nat} {x : q_E} (h : va_P D cl ((q_cw bs tc q).set k (bs + k, q_ce bs tc x)) H) : q_Wd D cl bs tc (q.set k x) H := by
  rw [q_cw_set] at h
  exact h
theorem q_memW (hx : p.tables.exec = Jvm.exec) (hb : c.code = cc) (hml : c.maxLocals = ls.size) (hV : q_GV G) {own : String} {kd : Nat} (hown : s.vm.findClass own = some m.cls) (hts : ∀ w ∈ q_T G, w.before args s = true) (hK : va_K D (q_gC G) (q_tyl G tc) s) (hini : kd = 2 → meth.name = "<init>")
    {len pos : Nat} {raw i : Instr} {st st' : List Value} {q q' : q_M} (hd : decode cc pc = .ok (raw, len)) (ho : q_ok2 G own kd raw len i pos = true)
    (hw : q_Wd D (q_gC G) bs tc q H) (hS : va_S (fun z => bs ≤ z) s.heap H locs)
    (h : q_mem G R.frames R.locals i st q = some (st', q'))
    (kk : ∀ (H1 : Heap) (locs1 : List Loc), q_Wd D (q_gC G) bs tc q' H1 → va_S (fun z => bs ≤ z) s.heap H1 locs1 → W p l e R s m args below meth c H1 locs1 cells slots Q (F0 m (pc + len) ls (st'.map (q_cv bs)))) : W p l e R s m args below meth c H locs cells slots Q (F0 m pc ls (st.map (q_cv bs))) := by
  have hD := q_cw_D (bs := bs) (tc := tc) (m := q)
  unfold q_mem at h
  split at h
  · -- getfield
    rename_i n
    simp only [q_ok2] at ho
    split at ho
    rotate_left
    · cases ho
    rename_i x
    split at ho
    rotate_left
    · cases ho
    rename_i C T N hc
    simp only [decide_eq_true_eq] at ho
    obtain ⟨rfl, hk, hC, hl⟩ := ho
    split at h
    rotate_left
    · cases h
    split at h
    rotate_left
    · cases h
    rename_i ci fs hm
    split at h
    rotate_left
    · cases h
    rename_i hci
    subst hci
    split at h
    rotate_left
    · cases h
    rename_i v hv
    cases h
    have hq := q_cw_get (bs := bs) (tc := tc) hm
    refine va_get hx hb hts (hV.1 _ _ _ _ hc).1 hown hK hw _ hq hc (n % 64) hk (hts _ (q_T_at hl rfl)) (fun z hz => by rw [hC] at hz; exact hz) (v := q_cv bs v) (by simp [List.getElem?_map, hv]) hd ?_
    exact kk H locs hw hS
  · -- putfield
    rename_i n
    simp only [q_ok2] at ho
    split at ho
    rotate_left
    · cases ho
    rename_i x
    split at ho
    rotate_left
    · cases ho
    rename_i C T N hc
    simp only [decide_eq_true_eq] at ho
    obtain ⟨rfl, hk, hC, hf, hl⟩ := ho
    split at h
    rotate_left
    · cases h
    split at h
    rotate_left
    · cases h
    rename_i v k r _ ci fs hm
    split at h
    rotate_left
    · cases h
    rename_i hci
    obtain ⟨hci, hlen, hn, hfit⟩ := hci
    subst hci
    cases h
    have hq := q_cw_get (bs := bs) (tc := tc) hm
    have hG := hV.1 _ _ _ _ hc
    have e1 : (q_cw bs tc q).set k (bs + k, .inr (n / 64, (fs.map (q_cv bs)).set (n % 64) (q_cv bs v))) = q_cw bs tc (q.set k (.inr (n / 64, fs.set (n % 64) v))) := by
      rw [← q_cw_set]
      simp [q_ce, List.map_set]
    have fin : ∀ (H1 : Heap) (locs1 : List Loc), va_P D (q_gC G) ((q_cw bs tc q).set k (bs + k, .inr (n / 64, (fs.map (q_cv bs)).set (n % 64) (q_cv bs v)))) H1 → va_D (fun z => bs ≤ z) ((q_cw bs tc q).set k (bs + k, .inr (n / 64, (fs.map (q_cv bs)).set (n % 64) (q_cv bs v)))) → va_S (fun z => bs ≤ z) s.heap H1 locs1 → W p l e R s m args below meth c H1 locs1 cells slots Q (F0 m (pc + 3) ls (st'.map (q_cv bs))) := fun H1 locs1 a1 _ a3 => kk H1 locs1 (by show va_P _ _ _ _; rw [← e1]; exact a1) a3
    by_cases hfin : (T (n % 64)).2.2.2 = false
    · exact va_put hx hb hts hG.1 (q_gY G (n / 64)) hG.2.1 hG.2.2.1 hown hK hw hD hS k hq hc (n % 64) hk (hts _ (q_T_at hl rfl)) (fun z hz => by rw [hC] at hz; exact hz) hfin (hG.2.1 _ hk) (v := q_cv bs v) (by rw [q_cv_narrow, hn]) (q_cv_fits bs _ v hfit) (by simpa using hlen) hd fin
    · rcases hf with hf | hf
      · exact absurd hf hfin
      · exact va_putF hx hb hts hG.1 (q_gY G (n / 64)) hG.2.1 hG.2.2.1 hown hK hw hD hS k hq hc (n % 64) hk (hts _ (q_T_at hl rfl)) (fun z hz => by rw [hC] at hz; exact hz) (by simpa using hfin) (hini hf.1) (by rw [hC]; exact hf.2) (hG.2.1 _ hk) (v := q_cv bs v) (by rw [q_cv_narrow, hn]) (q_cv_fits bs _ v hfit) (by simpa using hlen) hd fin
  · -- iaload
    simp only [q_ok2, decide_eq_true_eq] at ho
    obtain ⟨rfl, rfl, hA⟩ := ho
    split at h
    rotate_left
    · cases h
    split at h
    rotate_left
    · cases h
    rename_i j k r _ t n f hm
    split at h
    rotate_left
    · cases h
    rename_i hc
    obtain ⟨rfl, hin⟩ := hc
    cases h
    exact va_iald hx hb hK hw k 0 (q_cw_get (bs := bs) (tc := tc) hm) (q_tyl_get hA) (q_in_vp hin) hd (kk H locs hw hS)
  · -- laload
    simp only [q_ok2, decide_eq_true_eq] at ho
    obtain ⟨rfl, rfl, hA⟩ := ho
    split at h
    rotate_left
    · cases h
    split at h
    rotate_left
    · cases h
    rename_i j k r _ t n f hm
    split at h
    rotate_left
    · cases h
    rename_i hc
    obtain ⟨rfl, hin⟩ := hc
    cases h
    exact va_lald hx hb hK hw k 1 (q_cw_get (bs := bs) (tc := tc) hm) (q_tyl_get hA) (q_in_vp hin) hd (kk H locs hw hS)
  · -- baload
    simp only [q_ok2, decide_eq_true_eq] at ho
    obtain ⟨rfl, rfl, hA, hA2⟩ := ho
    split at h
    rotate_left
    · cases h
    split at h
    rotate_left
    · cases h
    rename_i j k r _ t n f hm
    split at h
    rotate_left
    · cases h
    rename_i hc
    obtain ⟨ht, hin⟩ := hc
    cases h
    rcases ht with rfl | rfl
    · exact va_bald hx hb hK hw k 2 (q_cw_get (bs := bs) (tc := tc) hm) (q_tyl_get hA) (q_in_vp hin) hd (kk H locs hw hS)
    · exact va_zald hx hb hK hw k 3 (q_cw_get (bs := bs) (tc := tc) hm) (q_tyl_get hA2) (q_in_vp hin) hd (kk H locs hw hS)
  · -- aaload
    simp only [q_ok2, decide_eq_true_eq] at ho
    obtain ⟨rfl, rfl, hA, hA2⟩ := ho
    split at h
    rotate_left
    · cases h
    split at h
    rotate_left
    · cases h
    rename_i j k r _ t n f hm
    split at h
    rotate_left
    · cases h
    rename_i hc
    obtain ⟨ht, hin, ht2⟩ := hc
    cases h
    obtain ⟨C, hC⟩ : ∃ C, (q_gA G)[t]? = some (.object C) := by
      have hz : (q_gA G)[t]? = some ((q_gA G)[t]) := List.getElem?_eq_getElem ht2
      have hmem : (q_gA G)[t] ∈ (q_gA G).drop 4 := by
        refine List.mem_of_getElem? (i := t - 4) ?_
        rw [List.getElem?_drop, show 4 + (t - 4) = t by omega]
        exact hz
      have hall := List.all_eq_true.mp hA _ hmem
      split at hall
      · rename_i C hC
        exact ⟨C, by rw [hz, hC]⟩
      · cases hall
    refine va_aldq hx hb hK hw k t (q_cw_get (bs := bs) (tc := tc) hm) (q_tyl_get hC) (q_in_vp hin) hd ?_
    have e2 : va_rf ((f j.toNatClampNeg).map (fun z => bs + z)) = q_cv bs (va_rf (f j.toNatClampNeg)) := by
      cases f j.toNatClampNeg <;> rfl
    rw [e2]
    exact kk H locs hw hS
  · -- iastore
    simp only [q_ok2, decide_eq_true_eq] at ho
    obtain ⟨rfl, rfl, hA⟩ := ho
    split at h
    rotate_left
    · cases h
    split at h
    rotate_left
    · cases h
    rename_i x j k r _ t n f hm
    split at h
    rotate_left
    · cases h
    rename_i hc
    obtain ⟨rfl, hin⟩ := hc
    cases h
    exact va_iast hx hb hK hw hD hS k 0 (q_cw_get (bs := bs) (tc := tc) hm) (q_tyl_get hA) (q_in_vp hin) hd (fun H1 locs1 a1 _ a3 => kk H1 locs1 (q_Wset a1) a3)
  · -- lastore
    simp only [q_ok2, decide_eq_true_eq] at ho
    obtain ⟨rfl, rfl, hA⟩ := ho
    split at h
    rotate_left
    · cases h
    split at h
    rotate_left
    · cases h
    rename_i x j k r _ t n f hm
    split at h
    rotate_left
    · cases h
    rename_i hc
    obtain ⟨rfl, hin⟩ := hc
    cases h
    exact va_last hx hb hK hw hD hS k 1 (q_cw_get (bs := bs) (tc := tc) hm) (q_tyl_get hA) (q_in_vp hin) hd (fun H1 locs1 a1 _ a3 => kk H1 locs1 (q_Wset a1) a3)
  · -- bastore
    simp only [q_ok2, decide_eq_true_eq] at ho
    obtain ⟨rfl, rfl, hA, hA2⟩ := ho
    split at h
    rotate_left
    · cases h
    split at h
    rotate_left
    · cases h
    rename_i x j k r _ t n f hm
    split at h
    · rename_i hc
      obtain ⟨rfl, hin⟩ := hc
      cases h
      exact va_bast hx hb hK hw hD hS k 2 (q_cw_get (bs := bs) (tc := tc) hm) (q_tyl_get hA) (q_in_vp hin) hd (fun H1 locs1 a1 _ a3 => kk H1 locs1 (q_Wset a1) a3)
    · split at h
      rotate_left
      · cases h
      rename_i hc
      obtain ⟨rfl, hin⟩ := hc
      cases h
      exact va_zast hx hb hK hw hD hS k 3 (q_cw_get (bs := bs) (tc := tc) hm) (q_tyl_get hA2) (q_in_vp hin) hd (fun H1 locs1 a1 _ a3 => kk H1 locs1 (q_Wset a1) a3)
  · -- aastore
    simp only [q_ok2, decide_eq_true_eq] at ho
    obtain ⟨rfl, rfl⟩ := ho
    split at h
    rotate_left
    · cases h
    split at h
    rotate_left
    · cases h
    rename_i v j k r _ t n f hm
    split at h
    rotate_left
    · cases h
    rename_i _ ci vs hmv
    split at h
    rotate_left
    · cases h
    rename_i hc
    obtain ⟨ht, hin, hC, hC2⟩ := hc
    cases h
    cases hci : (q_gC G)[ci]? with
    | none =>
      rw [hci] at hC
      rw [← hC] at hC2
      cases hC2
    | some z =>
      rw [hci] at hC
      refine va_astq hx hb hK hw hD hS k t v ci (r := z) (q_cw_get (bs := bs) (tc := tc) hm) (q_tyl_get hC.symm) (q_cw_get (bs := bs) (tc := tc) hmv) hci (q_in_vp hin) hd (fun H1 locs1 a1 _ a3 => kk H1 locs1 ?_ a3)
      have e3 : (fun y => (va_up f j.toNatClampNeg (some v) y).map (fun z => bs + z)) = va_up (fun y => (f y).map (fun z => bs + z)) j.toNatClampNeg (some (bs + v)) := by
        funext y
        simp only [va_up]
        split <;> rfl
      refine q_Wset ?_
      simp only [q_ce, e3]
      exact a1
  · -- arraylength
    simp only [q_ok2, decide_eq_true_eq] at ho
    obtain ⟨rfl, rfl⟩ := ho
    split at h
    rotate_left
    · cases h
    split at h
    rotate_left
    · cases h
    rename_i k r _ t n f hm
    split at h
    rotate_left
    · cases h
    rename_i hc
    cases h
    have hty := q_tyl_get (G := G) (tc := tc) (List.getElem?_eq_getElem hc)
    have hq := q_cw_get (bs := bs) (tc := tc) hm
    rcases f with f | f | f
    · exact va_alen hx hb hK hw k t hq hty rfl hd (kk H locs hw hS)
    · exact va_alen hx hb hK hw k t hq hty rfl hd (kk H locs hw hS)
    · exact va_alen hx hb hK hw k t hq hty rfl hd (kk H locs hw hS)
  · -- Object's own start, a row copied
    simp only [q_ok2] at ho
    split at h
    · rename_i n hn
      subst hn
      split at ho
      · simp only [decide_eq_true_eq] at ho
        obtain ⟨-, rfl, hl⟩ := ho
        split at h
        rotate_left
        · cases h
        split at h
        rotate_left
        · cases h
        rename_i hc
        cases h
        exact W.objInit hx hb hown (hts _ (q_T_at hl rfl)) (hts _ (hV.2 _ (by simp [q_sys]))) (hts _ (hV.2 _ (by simp [q_sys]))) rfl hml.symm rfl hd hc.1 (by
          rw [q_cats_cv]
          have := hc.2
          simpa [JFrame.monitorRoom] using this) (kk H locs hw hS)
      · simp only [decide_eq_true_eq] at ho
        exact absurd ho.1 (by decide)
      · cases ho
    · split at h
      rotate_left
      · cases h
      rename_i n hn0 hn
      subst hn
      split at ho
      · simp only [decide_eq_true_eq] at ho
        exact absurd ho.1 (by decide)
      · simp only [decide_eq_true_eq] at ho
        obtain ⟨-, rfl, hA0, hA1, hl⟩ := ho
        unfold q_copy at h
        split at h
        rotate_left
        · cases h
        rename_i w dp k sp j r
        split at h
        rotate_left
        · cases h
        rename_i hc
        obtain ⟨hfr, hlo, hsp, hdp, hw0⟩ := hc
        have hlo2 : ((r.map (q_cv bs)).map fun v => v.category).sum + (nativeFrameWords "java/lang/System" "arraycopy" 5 + 11) ≤ R.locals := by
          rw [q_cats_cv]
          have e9 : nativeFrameWords "java/lang/System" "arraycopy" 5 = 7 := by decide +kernel
          omega
        unfold q_cpy at h
        split at h
        · rename_i t0 n0 f t1 n1 g hj hk
          split at h
          rotate_left
          · cases h
          rename_i hc
          obtain ⟨rfl, rfl, h4, h5⟩ := hc
          cases h
          exact va_copyi hx hb hml hown (hts _ (q_T_at hl rfl)) (hts _ (hV.2 _ (by simp [q_sys]))) (hts _ (hV.2 _ (by simp [q_sys]))) (hts _ (hV.2 _ (by simp [q_sys]))) hK hw hD hS j k 0 0 (ty := .int) (q_cw_get (bs := bs) (tc := tc) hj) (q_cw_get (bs := bs) (tc := tc) hk) (q_tyl_get hA0) (q_tyl_get hA0) rfl hsp hdp hw0 h4 h5 (fun _ _ => rfl) hfr hlo2 hd (fun H1 locs1 a1 _ a3 => kk H1 locs1 (q_Wset a1) a3)
        · rename_i t0 n0 f t1 n1 g hj hk
          split at h
          rotate_left
          · cases h
          rename_i hc
          obtain ⟨rfl, rfl, h4, h5⟩ := hc
          cases h
          exact va_copyl hx hb hml hown (hts _ (q_T_at hl rfl)) (hts _ (hV.2 _ (by simp [q_sys]))) (hts _ (hV.2 _ (by simp [q_sys]))) (hts _ (hV.2 _ (by simp [q_sys]))) hK hw hD hS j k 1 1 (ty := .long) (q_cw_get (bs := bs) (tc := tc) hj) (q_cw_get (bs := bs) (tc := tc) hk) (q_tyl_get hA1) (q_tyl_get hA1) rfl hsp hdp hw0 h4 h5 (fun _ _ => rfl) hfr hlo2 hd (fun H1 locs1 a1 _ a3 => kk H1 locs1 (q_Wset a1) a3)
        · cases h
      · cases ho
  · cases h
end QMEM
end
section
section QNEW
variable {p : Program} {l : Launch} {e : Env} {R : Room} {s : State} {m : MethodId} {args : Array Value} {below : List Frame} {meth : Method} {c : Code} {H : Heap} {locs : List Loc} {cells slots : Nat} {Q : State → Prop}
variable {cc : ByteArray} {pc : Nat} {ls : Array Slot} {G : q_G} {D : va_G} {bs : Nat} {tc : Nat → ClassId}
theorem q_pushed {cl : List vw_C} {q : q_M} {x : q_E} {H1 : Heap} (hw : q_Wd D cl bs tc q H) (hz : H.size = bs + q.length) (e1 : va_at D cl (H.size, q_ce bs tc x) H1) (o1 : ∀ z, z < H.size → H1[z]? = H[z]?) : q_Wd D cl bs tc (q ++ [x]) H1 := by
  show va_P _ _ _ _
  rw [← q_cw_push]
  refine (va_P.kept hw (fun k y hy => o1 y.1 ((hw k y hy).lt))).app (fun k y hy => ?_)
  have hk : k < 1 := (List.getElem?_eq_some_iff.mp hy).1
  rw [show k = 0 by omega] at hy
  cases hy
  rw [← hz]
  exact e1
theorem q_grown {H0 H1 : Heap} (hS : va_S (fun z => bs ≤ z) H0 H locs) (z1 : H1.size = H.size + 1) (o1 : ∀ z, z < H.size → H1[z]? = H[z]?) : va_S (fun z => bs ≤ z) H0 H1 locs :=
  ⟨Nat.le_trans hS.1 (by omega), fun x h1 h2 => (o1 x (Nat.lt_of_lt_of_le h1 hS.1)).trans (hS.2.1 x h1 h2), hS.2.2⟩
theorem q_newW (hx : p.tables.exec = Jvm.exec) (hb : c.code = cc) (hV : q_GV G) {own : String} (hown : s.vm.findClass own = some m.cls) (hts : ∀ w ∈ q_T G, w.before args s = true) (hK : va_K D (q_gC G) (q_tyl G tc) s)
    (hAO : ∀ (t : Nat) (C : String), (q_gA G)[t]? = some (.object C) → va_AO C s)
    {len pos : Nat} {raw i : Instr} {st st' : List Value} {q : q_M} {x : q_E} (hd : decode cc pc = .ok (raw, len)) (ho : q_ok3 G own raw len i pos = true)
    (hw : q_Wd D (q_gC G) bs tc q H) (hS : va_S (fun z => bs ≤ z) s.heap H locs) (hz : H.size = bs + q.length)
    (h : q_new G i st q = some (st', x)) (hc1 : cells + 1 ≤ R.cells) (hc2 : slots + q_sz x ≤ R.slots)
    (kk : ∀ (H1 : Heap), q_Wd D (q_gC G) bs tc (q ++ [x]) H1 → va_S (fun z => bs ≤ z) s.heap H1 locs → W p l e R s m args below meth c H1 locs (cells + 1) (slots + q_sz x) Q (F0 m (pc + len) ls (st'.map (q_cv bs)))) : W p l e R s m args below meth c H locs cells slots Q (F0 m pc ls (st.map (q_cv bs))) := by
  unfold q_new at h
  split at h
  · -- new
    rename_i ci
    simp only [q_ok3] at ho
    split at ho
    rotate_left
    · cases ho
    split at ho
    rotate_left
    · cases ho
    rename_i C T N hc
    simp only [decide_eq_true_eq] at ho
    obtain ⟨rfl, hl⟩ := ho
    rw [hc] at h
    cases h
    have hKn := hK.1 ci _ hc
    have hG := hV.1 _ _ _ _ hc
    have hN : q_sz (.inr (ci, (List.range N).map (fun k => defaultValue (q_gY G ci k)))) = N := by simp [q_sz]
    rw [hN] at hc2 kk
    refine W.newcK hx hb hown (hts _ (q_T_at hl rfl)) (hts _ hG.2.2.2.1) (hts _ hG.2.2.2.2) rfl hd hc1 hc2 hKn.2.1 rfl fun H1 kC hkC e1 z1 o1 => ?_
    have K := kk H1 (q_pushed hw hz ⟨_, hc, (u_born (q_gY G ci) hts hG.1 hKn hkC e1 hG.2.1).to (fun k hk => by
      have : ¬ N ≤ k := by omega
      simp only [vp_V, List.getD_eq_getElem?_getD, List.getElem?_map, List.getElem?_range hk]
      simp only [Option.map_some, Option.getD_some]
      cases q_gY G ci k <;> rfl)⟩ o1) (q_grown hS z1 o1)
    simp only [List.map_cons, q_cv] at K
    rw [← hz] at K
    exact K
  · -- newarray
    rename_i a
    simp only [q_ok3, decide_eq_true_eq] at ho
    obtain ⟨rfl, rfl, hl, hA⟩ := ho
    split at h
    rotate_left
    · cases h
    rename_i w r
    split at h
    rotate_left
    · cases h
    rename_i hw3
    obtain ⟨hw0, hw1, hw2⟩ := hw3
    cases h
    have hbytes : w.toNatClampNeg * componentBytes (Op.newarray.typeOf a) ≤ 536870912 := by
      have : componentBytes (Op.newarray.typeOf a) ≤ 8 := by cases a <;> decide
      have := Nat.mul_le_mul hw1 this
      omega
    have hty := hK.2 (q_tag a) _ (q_tyl_get hA)
    refine va_newaK hx hb (hts _ (q_T_at hl rfl)) rfl hd rfl hw0 rfl hbytes hc1 hc2 rfl fun H1 cA e1 z1 o1 hAr hNm => ?_
    have hcA : tc (q_tag a) = cA := by
      have h9 := hty.2
      cases a <;> first | exact absurd hw2 (by decide) | exact Option.some.inj (h9.symm.trans hNm)
    subst hcA
    have K := kk H1 (q_pushed hw hz (by
      cases a <;> first | exact absurd hw2 (by decide) | exact e1) o1) (q_grown hS z1 o1)
    simp only [List.map_cons, q_cv] at K
    rw [← hz] at K
    exact K
  · -- anewarray
    rename_i t
    simp only [q_ok3] at ho
    split at ho
    rotate_left
    · cases ho
    split at ho
    rotate_left
    · cases ho
    rename_i o y C hl
    simp only [decide_eq_true_eq] at ho
    obtain ⟨rfl, rfl, rfl, hA⟩ := ho
    split at h
    rotate_left
    · cases h
    rename_i w r
    split at h
    rotate_left
    · cases h
    rename_i hw3
    obtain ⟨hw0, hw1⟩ := hw3
    cases h
    have hty := hK.2 t _ (q_tyl_get hA)
    obtain ⟨kA0, comp0, g1, g2, g3, g4⟩ := hty.2
    refine W.anew hx hb hown (hts _ (q_T_at hl rfl)) (va_AO.use (hAO t C hA)) rfl hd rfl hw0 (by omega) hc1 hc2 fun cA kA comp f1 f2 f3 f4 => ?_
    have hcA : tc t = cA := Option.some.inj (g4.symm.trans f1)
    subst hcA
    have e1 : va_at D (q_gC G) (H.size, q_ce bs tc (.inl (t, w.toNatClampNeg, .inr (.inr (fun _ => none))))) (H.push { cls := tc t, slots := Array.replicate w.toNatClampNeg .null, vm := .none }) := by
      show (H.push _)[H.size]? = some (vp_cell _ _)
      simp only [Array.getElem?_push_size, vp_cell, Option.map_none, va_rf]
      rw [← arrV_new]
    have o1 : ∀ z, z < H.size → (H.push { cls := tc t, slots := Array.replicate w.toNatClampNeg .null, vm := .none })[z]? = H[z]? := fun z hz9 => by rw [Array.getElem?_push, if_neg (Nat.ne_of_lt hz9)]
    have K := kk _ (q_pushed hw hz e1 o1) (q_grown hS (by simp) o1)
    simp only [List.map_cons, q_cv] at K
    rw [← hz] at K
    exact K
  · cases h
end QNEW
end
section
theorem q_setz {q : q_M} {k : Nat} {x y : q_E} (h : q[k]? = some x) (hs : q_sz y = q_sz x) : (q.set k y).length = q.length ∧ q_sl (q.set k y) = q_sl q := ⟨List.length_set, q_sl_set h hs⟩
theorem q_mem_sz {G : q_G} {fr lo : Nat} {i : Instr} {st st1 : List Value} {q q1 : q_M} (h : q_mem G fr lo i st q = some (st1, q1)) : q1.length = q.length ∧ q_sl q1 = q_sl q := by
  unfold q_mem at h
  repeat' split at h
  all_goals first
    | (cases h; done)
    | (cases h; exact ⟨rfl, rfl⟩)
    | (cases h; refine q_setz (by assumption) ?_; first | rfl | simp [q_sz])
    | skip
  unfold q_copy at h
  repeat' split at h
  all_goals first
    | (cases h; done)
    | skip
  unfold q_cpy at h
  repeat' split at h
  all_goals first
    | (cases h; done)
    | (cases h; refine q_setz (by assumption) ?_; first | rfl | simp [q_sz])
theorem q_mono {G : q_G} : ∀ (n : Nat) (M : q_MI) (pc : Nat) (lv : q_L) (st : List Value) (q : q_M) (r : Option Value) (qF : q_M), q_run G n M pc lv st q = some (r, qF) → q.length ≤ qF.length ∧ q_sl q ≤ q_sl qF
  | 0, _, _, _, _, _, _, _, h => by simp [q_run] at h
  | n + 1, M, pc, lv, st, q, r, qF, h => by
    unfold q_run at h
    split at h
    · cases h
    · split at h
      · split at h
        · exact q_mono n _ _ _ _ _ _ _ h
        · cases h
      · split at h
        · rename_i h1
          have h2 := q_mono n _ _ _ _ _ _ _ h
          have h3 := q_mem_sz h1
          rw [h3.1, h3.2] at h2
          exact h2
        · cases h
      · split at h
        · have h2 := q_mono n _ _ _ _ _ _ _ h
          rw [q_sl_push, List.length_append] at h2
          exact ⟨by omega, by omega⟩
        · cases h
      · split at h
        · split at h
          · split at h
            · rename_i h1
              have h2 := q_mono n _ _ _ _ _ _ _ h
              have h3 := q_mono n _ _ _ _ _ _ _ h1
              exact ⟨by omega, by omega⟩
            · cases h
          · cases h
        · split at h
          · cases h
            exact ⟨Nat.le_refl _, Nat.le_refl _⟩
          · cases h
      · split at h
        · exact q_mono n _ _ _ _ _ _ _ h
        · cases h
def q_Nst (G : q_G) (U : State) : Prop := (∀ z ∈ q_gN G, va_Nw (.methodLinkNest z.1 z.2.1 z.2.2.1 z.2.2.2) U) ∧ (∀ (t : Nat) (C : String), (q_gA G)[t]? = some (.object C) → va_AO C U)
theorem q_Nst_warm {G : q_G} {s U : State} (hW : s.WarmedH U.vm) (h : q_Nst G s) : q_Nst G U := ⟨fun z hz => va_Nw.warmM hW (h.1 z hz), fun t C ht => va_AO.moved hW.alike (h.2 t C ht)⟩
theorem q_Nst_same {G : q_G} {u U : State} (e : u.vm = U.vm) (h : q_Nst G u) : q_Nst G U := ⟨fun z hz => va_Nw.same rfl e (h.1 z hz), fun t C ht => va_AO.moved (by rw [e]; exact Vm.Alike.refl _) (h.2 t C ht)⟩
def q_Pc (G : q_G) (D : va_G) (bs : Nat) (tc : Nat → ClassId) (as : List Value) (q : q_M) : Array Value → State → Prop := fun v U => v = (as.map (q_cv bs)).toArray ∧ U.heap.size = bs + q.length ∧ q_Wd D (q_gC G) bs tc q U.heap ∧ va_K D (q_gC G) (q_tyl G tc) U ∧ q_Nst G U
def q_Qc (G : q_G) (D : va_G) (bs : Nat) (tc : Nat → ClassId) (r : Option Value) (q : q_M) : Array Value → State → Outcome → State → Prop := fun _ st o t => o = .returned (r.map (q_cv bs)) ∧ q_Wd D (q_gC G) bs tc q t.heap ∧ va_F (fun z => bs ≤ z) st t
def q_ws (G : q_G) (M : q_MI) : List Cond := .code (q_mY M) (q_mB M) (q_mL M) (q_mR M) :: q_T G
theorem q_blind {G : q_G} {D : va_G} {bs : Nat} {tc : Nat → ClassId} {as : List Value} {q : q_M} : FrameBlind (q_Pc G D bs tc as q) := fun a U g mk h => by
  obtain ⟨h1, h2, h3, h4, h5⟩ := h
  exact ⟨h1, h2, h3, va_K.moved (u := U) (U := U.calling g mk a) (Vm.Alike.refl U.vm) h4, q_Nst_same rfl h5⟩
theorem q_args_cl (bs : Nat) : ∀ (as : List Value) (i : Nat), lv_args i (as.map (q_cv bs)) = q_cl bs (lv_args i as)
  | [], i => rfl
  | v :: as, i => by
    simp only [List.map_cons, lv_args, q_cv_cat]
    rw [q_args_cl bs as]
    rfl
theorem q_sl_len (bs : Nat) : ∀ (as : List Value), (lg_sl (as.map (q_cv bs))).length = q_cats as
  | [] => rfl
  | v :: as => by
    have ih := q_sl_len bs as
    simp only [lg_sl, List.map_cons, List.flatMap_cons, List.length_append, q_cats, List.sum_cons, q_cv_cat] at ih ⊢
    rw [ih]
    rcases lv_cat v with h | h <;> simp [h]
section QCALL
variable {p : Program} {l : Launch} {e : Env} {R : Room} {s : State} {m : MethodId} {args : Array Value} {below : List Frame} {meth : Method} {c : Code} {H : Heap} {locs : List Loc} {cells slots : Nat} {Q : State → Prop}
variable {pc : Nat} {ls : Array Slot} {G : q_G} {D : va_G} {bs : Nat} {tc : Nat → ClassId}
theorem q_callW {mc ms : Nat} {st0 rest : List Value} {r1 : Option Value} {q1 : q_M} {a : Array Value} (hr : va_Run p l e R s m args below meth c H locs cells slots mc ms (F0 m pc ls st0) rest (q_Qc G D bs tc r1 q1 a) (fun z => bs ≤ z)) (hS : va_S (fun z => bs ≤ z) s.heap H locs)
    (kk : ∀ (H1 : Heap) (locs1 : List Loc), q_Wd D (q_gC G) bs tc q1 H1 → va_S (fun z => bs ≤ z) s.heap H1 locs1 → W p l e R s m args below meth c H1 locs1 (cells + mc) (slots + ms) Q (F0 m (pc + 3) ls ((r1.map (q_cv bs)).toList ++ rest))) : W p l e R s m args below meth c H locs cells slots Q (F0 m pc ls st0) := by
  intro T hT X
  obtain ⟨v, st₀, t, T', L, h0, X', hL, e1, e2, ⟨hv, hb, hz, hk⟩, st⟩ := hr T hT X
  cases hv
  rw [h0] at hz hk
  obtain ⟨t2, a1, b1⟩ := kk T'.heap (locs ++ L) (by rw [e1]; exact hb)
    ⟨Nat.le_trans hS.1 (by rw [e1]; exact hz), fun z h1 h2 => by rw [e1, hk z (Nat.lt_of_lt_of_le h1 hS.1) h2]; exact hS.2.1 z h1 h2, fun z hz => by
      rcases List.mem_append.mp hz with h | h
      · exact hS.2.2 z h
      · exact hL z h⟩ T' rfl X'
  exact ⟨t2, st t2 a1, b1⟩
end QCALL
end
section
def q_Cx (G : q_G) (D : va_G) (bs : Nat) (tc : Nat → ClassId) (M : q_MI) (q0 qF : q_M) (p : Program) (R : Room) (s : State) (m : MethodId) (args : Array Value) (meth : Method) (c : Code) : Prop :=
  p.tables.exec = Jvm.exec ∧ c.code = q_mB M ∧ c.maxLocals = q_mL M ∧ s.vm.findClass (q_mY M).cls = some m.cls ∧ (∀ w ∈ q_T G, w.before args s = true) ∧ va_K D (q_gC G) (q_tyl G tc) s ∧ q_Nst G s ∧ meth.sig.returnType = q_mR M ∧ meth.locks = false ∧ (q_mK M = 2 → meth.name = "<init>") ∧ s.heap.size = bs + q0.length
  ∧ R = ({ frames := q_mF M, cells := qF.length - q0.length, slots := q_sl qF - q_sl q0, locals := q_mO M } : Room)
def q_Dx (G : q_G) (D : va_G) (bs : Nat) (tc : Nat → ClassId) (M : q_MI) (q0 q : q_M) (lv : q_L) (s : State) (H : Heap) (locs : List Loc) (cells slots : Nat) (ls : Array Slot) : Prop :=
  q_Wd D (q_gC G) bs tc q H ∧ va_S (fun z => bs ≤ z) s.heap H locs ∧ lv_has ls (q_mL M) (q_cl bs lv) ∧ cells = q.length - q0.length ∧ slots = q_sl q - q_sl q0 ∧ q0.length ≤ q.length ∧ q_sl q0 ≤ q_sl q
theorem q_good {G : q_G} {M : q_MI} (hok : q_okM G M) : GoodIn (q_T G) (q_ws G M) := by
  intro w hw
  rcases List.mem_cons.mp hw with rfl | h
  · have h1 := hok.1
    simp only [q_okH, Bool.and_eq_true, decide_eq_true_eq] at h1
    exact ⟨q_T_at h1.1.1.2 rfl, Or.inl rfl⟩
  · exact ⟨h, good_of_word (List.mem_filter.mp h).2⟩
theorem q_ofW {l : Launch} {y : MethodName} {ws ws' : List Cond} {rm : Room} {Pc : Array Value → State → Prop} {Qc : Array Value → State → Outcome → State → Prop} {mc ms : Nat} {free : Addr → Prop} {cc : ByteArray} {maxL : Nat} {ret : Option FieldType}
    (hy : plainFor y = true) (hw : ws = Cond.code y cc maxL ret :: ws')
    (body : ∀ p e s m args below meth c s₁, BodyLoose p l y (headSpec ws rm) cc maxL ret e s m args below meth c s₁ → c.maxLocals = maxL → Pc args s →
      W p l e (headSpec ws rm).room s m args below meth c s.heap [] 0 0 (MQ below Qc args s mc ms free) (entryFrame m args maxL)) : Met l y ws rm Pc Qc mc ms free := by
  refine MetFree.of_bodySF (code := cc) (maxLocals := maxL) (ret := ret) hy ?_ ?_
  · intro args s m h hn
    obtain ⟨meth, c, h1, h2, h3, h4, h5, h6, -, -⟩ := Cond.code_spec hn (atoms_spec (ws := ws) h _ (by rw [hw]; exact List.mem_cons_self))
    exact ⟨meth, c, h1, h2, h3, h4, h5, h6⟩
  · intro p e s m args below meth c s₁ B hml hP _
    have hh0 : s₁.heap = s.heap := by rw [B.state]; rfl
    obtain ⟨t, a1, o, b1, b2, b3⟩ := body p e s m args below meth c s₁ B hml hP s₁ hh0 (Stand.of_body B)
    exact ⟨t, o, a1, b1, b2, ⟨b3.1, b3.2⟩⟩
/-- a method's contract out of its walk -/
theorem q_metI {G : q_G} {l : Launch} {D : va_G} {bs : Nat} {tc : Nat → ClassId} {M : q_MI} {as : List Value} {q qF : q_M} {r : Option Value} (hok : q_okM G M) (hm : q.length ≤ qF.length ∧ q_sl q ≤ q_sl qF) (hcats : q_cats as ≤ q_mL M)
    (ih : ∀ {p : Program} {e : Env} {R : Room} {s : State} {m : MethodId} {args : Array Value} {below : List Frame} {meth : Method} {c : Code} {H : Heap} {locs : List Loc} {cells slots : Nat} {ls : Array Slot} {q0 : q_M}, q_Cx G D bs tc M q0 qF p R s m args meth c → q_Dx G D bs tc M q0 q (lv_args 0 as) s H locs cells slots ls →
      W p l e R s m args below meth c H locs cells slots (MQ below (q_Qc G D bs tc r qF) args s (qF.length - q0.length) (q_sl qF - q_sl q0) (fun z => bs ≤ z)) (F0 m 0 ls [])) :
    Met l (q_mY M) (q_ws G M) ({ frames := q_mF M, cells := qF.length - q.length, slots := q_sl qF - q_sl q, locals := q_mO M } : Room) (q_Pc G D bs tc as q) (q_Qc G D bs tc r qF) (qF.length - q.length) (q_sl qF - q_sl q) (fun z => bs ≤ z) := by
  have h1 := hok.1
  simp only [q_okH, Bool.and_eq_true, decide_eq_true_eq] at h1
  refine q_ofW (cc := q_mB M) (maxL := q_mL M) (ret := q_mR M) h1.1.1.1.1 rfl ?_
  intro p e s m args below meth c s₁ B hml hv
  obtain ⟨rfl, hsz, hP, hK, hN⟩ := hv
  have hts := atoms_spec (ws := q_ws G M) B.pre
  have hown := findClass_of_methodNamed B.named
  have hlocks := B.notSynchronized
  have hin : meth.name = (q_mY M).name := (name_of_methodNamed B.named B.method).1
  have hl := lv_entry (as.map (q_cv bs)) (n := q_mL M) (by rw [q_sl_len]; exact hcats)
  rw [q_args_cl] at hl
  rw [lg_entry_eq]
  refine ih (q0 := q) ⟨B.exec, B.bytes, hml, hown, fun w hw => hts w (List.mem_cons_of_mem _ hw), hK, hN, B.returns, hlocks, fun hk => ?_, hsz, rfl⟩ ⟨hP, va_S.rf, hl, by omega, by omega, Nat.le_refl _, Nat.le_refl _⟩
  have h2 := h1.2
  rw [hk] at h2
  simp only [decide_eq_true_eq] at h2
  rw [hin, h2.2.1]
theorem q_stsplit {st : List Value} {n : Nat} {as : List Value} (h : as = (st.take n).reverse) : st = as.reverse ++ st.drop n := by
  rw [h, List.reverse_reverse, List.take_append_drop]
theorem q_cats_rev (as : List Value) : q_cats as.reverse = q_cats as := by
  unfold q_cats
  rw [List.map_reverse]
  exact (List.reverse_perm _).sum_nat
section QINV
variable {p : Program} {l : Launch} {e : Env} {R : Room} {s : State} {m : MethodId} {args : Array Value} {below : List Frame} {meth : Method} {c : Code} {H : Heap} {locs : List Loc} {cells slots : Nat} {Q : State → Prop}
variable {cc : ByteArray} {pc : Nat} {ls : Array Slot} {G : q_G} {D : va_G} {bs : Nat} {tc : Nat → ClassId}
/-- a call, over its callee's contract -/
theorem q_invW (hx : p.tables.exec = Jvm.exec) (hb : c.code = cc) {nL : Nat} (hml : c.maxLocals = nL) {own : String} (hown : s.vm.findClass own = some m.cls) (hts : ∀ w ∈ q_T G, w.before args s = true) (hK : va_K D (q_gC G) (q_tyl G tc) s) (hN : q_Nst G s)
    {M M2 : q_MI} (hokM : q_okM G M2) (hRf : q_mF M = R.frames) (hRl : q_mO M = R.locals) {len pos k : Nat} {raw i : Instr} {lv : q_L} {st as rest : List Value} {q q1 : q_M} {r1 : Option Value} (hd : decode cc pc = .ok (raw, len)) (hok : q_ok4 G own raw len i pos = true) (hk : q_cnum i = some k) (hcall : q_call G M k st q = some (M2, as, rest))
    (hMet0 : q_cats as ≤ q_mL M2 → Met l (q_mY M2) (q_ws G M2) ({ frames := q_mF M2, cells := q1.length - q.length, slots := q_sl q1 - q_sl q, locals := q_mO M2 } : Room) (q_Pc G D bs tc as q) (q_Qc G D bs tc r1 q1) (q1.length - q.length) (q_sl q1 - q_sl q) (fun z => bs ≤ z))
    (hw : q_Wd D (q_gC G) bs tc q H) (hS : va_S (fun z => bs ≤ z) s.heap H locs) (hl : lv_has ls nL lv) (hzz : H.size = bs + q.length) (hfit : cells + (q1.length - q.length) ≤ R.cells ∧ slots + (q_sl q1 - q_sl q) ≤ R.slots)
    (kk : ∀ (H1 : Heap) (locs1 : List Loc), q_Wd D (q_gC G) bs tc q1 H1 → va_S (fun z => bs ≤ z) s.heap H1 locs1 → W p l e R s m args below meth c H1 locs1 (cells + (q1.length - q.length)) (slots + (q_sl q1 - q_sl q)) Q (F0 m (pc + len) ls ((r1.toList ++ rest).map (q_cv bs)))) : W p l e R s m args below meth c H locs cells slots Q (F0 m pc ls (st.map (q_cv bs))) := by
  unfold q_call at hcall
  split at hcall
  · cases hcall
  rename_i M3 hM2
  split at hcall
  rotate_left
  · cases hcall
  rename_i hcc
  obtain ⟨hlen, hca, hfr, hlo, hcb, hrc⟩ := hcc
  have e0 := Option.some.inj hcall
  have e1 : M3 = M2 := congrArg Prod.fst e0
  subst e1
  have e2 : as = (st.take (q_na M3)).reverse := (congrArg (fun z => z.2.1) e0).symm
  have e3 : rest = st.drop (q_na M3) := (congrArg (fun z => z.2.2) e0).symm
  have hst : st = as.reverse ++ rest := by rw [e3]; exact q_stsplit e2
  have hcas : q_cats as ≤ q_mL M3 := by rw [e2, q_cats_rev]; exact hcb
  have hMet := hMet0 hcas
  have hH := hokM.1
  simp only [q_okH, Bool.and_eq_true, decide_eq_true_eq] at hH
  obtain ⟨⟨⟨⟨-, hnm⟩, hcode⟩, hinit⟩, hkind⟩ := hH
  have hPre : ∀ U : State, U.heap = H → s.WarmedH U.vm → q_Pc G D bs tc as q ((as.map (q_cv bs)).toArray) U := fun U hU hW => ⟨rfl, by rw [hU]; exact hzz, by rw [hU]; exact hw, va_K.moved hW.alike hK, q_Nst_warm hW hN⟩
  have hroom : 2 * (F0 m pc ls (st.map (q_cv bs))).monitorRoom + ((rest.map (q_cv bs)).map fun v => v.category).sum ≤ 8 := by
    rw [q_cats_cv, e3]
    simpa [JFrame.monitorRoom] using hca
  have goOn : ∀ (H1 : Heap) (locs1 : List Loc), q_Wd D (q_gC G) bs tc q1 H1 → va_S (fun z => bs ≤ z) s.heap H1 locs1 → len = 3 → W p l e R s m args below meth c H1 locs1 (cells + (q1.length - q.length)) (slots + (q_sl q1 - q_sl q)) Q (F0 m (pc + 3) ls ((r1.map (q_cv bs)).toList ++ rest.map (q_cv bs))) := by
    intro H1 locs1 hw1 hS1 hlen3
    subst hlen3
    have K := kk H1 locs1 hw1 hS1
    have e9 : (r1.toList ++ rest).map (q_cv bs) = (r1.map (q_cv bs)).toList ++ rest.map (q_cv bs) := by
      cases r1 <;> simp
    rw [e9] at K
    exact K
  have hstk : st.map (q_cv bs) = (as.map (q_cv bs)).reverse ++ rest.map (q_cv bs) := by
    conv => lhs; rw [hst]
    simp [List.map_reverse]
  have hasl : as.length = q_na M3 := by
    rw [e2, List.length_reverse, List.length_take]
    omega
  unfold q_cnum at hk
  split at hk
  · -- invokevirtual
    rename_i k2
    cases hk
    simp only [q_ok4] at hok
    split at hok
    rotate_left
    · cases hok
    rename_i x
    rw [hM2] at hok
    simp only [decide_eq_true_eq] at hok
    obtain ⟨rfl, hk0, hlink⟩ := hok
    rw [hk0] at hkind
    simp only [decide_eq_true_eq] at hkind
    simp only [q_rcv, hk0] at hrc
    have hna : q_na M3 = q_mN M3 + 1 := by simp [q_na, hk0]
    rw [← e2] at hrc
    generalize hasc : as = as2 at hrc
    split at hrc
    rotate_left
    · cases hrc
    rename_i a As
    split at hrc
    rotate_left
    · cases hrc
    rename_i ci fs hma
    simp only [decide_eq_true_eq, Option.map_eq_some_iff] at hrc
    obtain ⟨zc, hzc, hzn⟩ := hrc
    have hrecv := va_recv hK hw hzc (q_cw_get (bs := bs) (tc := tc) hma)
    rw [hzn] at hrecv
    have hcb2 := callB_of (R := R) (rm := ({ frames := q_mF M3, cells := q1.length - q.length, slots := q_sl q1 - q_sl q, locals := q_mO M3 } : Room)) (mc := q1.length - q.length) (ms := q_sl q1 - q_sl q) (q_mN M3) hts (q_good hokM) rfl rfl rfl (hts _ (q_T_at hinit rfl)) (hts _ (q_T_at hlink rfl)) hnm ⟨hRf ▸ hfr, hRl ▸ hlo⟩
    refine q_callW (r1 := r1) (q1 := q1) (va_runV (As := As.map (q_cv bs)) (b := bs + a) (rest := rest.map (q_cv bs)) ⟨hx, hb, hml, hown, hts⟩ hMet ⟨hcb2, hts _ (q_T_at hkind.1 rfl), hts _ (q_T_at hkind.2 rfl)⟩ ⟨q_blind, hrecv, fun U hU hW => by have := hPre U hU hW; rw [hasc] at this; rw [hasc]; exact this⟩ rfl ?_ hl.1 ?_ hroom hd hfit) hS (fun H1 locs1 a1 a2 => goOn H1 locs1 a1 a2 rfl)
    · have := hasl
      rw [hasc, hna] at this
      simpa using this
    · show st.map (q_cv bs) = _
      rw [hstk, hasc]
      simp [q_cv]
  · -- invokestatic
    rename_i k2
    cases hk
    simp only [q_ok4] at hok
    split at hok
    rotate_left
    · cases hok
    rename_i x
    rw [hM2] at hok
    simp only [decide_eq_true_eq] at hok
    obtain ⟨rfl, hk0, hlink⟩ := hok
    rw [hk0] at hkind
    simp only [decide_eq_true_eq] at hkind
    have hna : q_na M3 = q_mN M3 := by simp [q_na, hk0]
    unfold q_lnk at hlink
    split at hlink
    · simp only [decide_eq_true_eq] at hlink
      have hcb2 := callB_of (R := R) (rm := ({ frames := q_mF M3, cells := q1.length - q.length, slots := q_sl q1 - q_sl q, locals := q_mO M3 } : Room)) (mc := q1.length - q.length) (ms := q_sl q1 - q_sl q) (q_mN M3) hts (q_good hokM) rfl rfl rfl (hts _ (q_T_at hinit rfl)) (hts _ (q_T_at hlink rfl)) hnm ⟨hRf ▸ hfr, hRl ▸ hlo⟩
      refine q_callW (r1 := r1) (q1 := q1) (va_runS (As := as.map (q_cv bs)) (rest := rest.map (q_cv bs)) ⟨hx, hb, hml, hown, hts⟩ hMet ⟨hcb2, hts _ (q_T_at hkind rfl)⟩ ⟨q_blind, hPre⟩ rfl ?_ hl.1 ?_ hroom hd hfit) hS (fun H1 locs1 a1 a2 => goOn H1 locs1 a1 a2 rfl)
      · rw [List.length_map, hasl, hna]
      · exact hstk
    · split at hlink
      rotate_left
      · cases hlink
      rename_i z hz9
      simp only [decide_eq_true_eq] at hlink
      obtain ⟨z1, z2, z3⟩ := hlink
      have hnw := hN.1 z (List.mem_of_getElem? hz9)
      rw [z1, z2, z3] at hnw
      have hcb2 := va_cnB (R := R) (rm := ({ frames := q_mF M3, cells := q1.length - q.length, slots := q_sl q1 - q_sl q, locals := q_mO M3 } : Room)) (mc := q1.length - q.length) (ms := q_sl q1 - q_sl q) (q_mN M3) hts (q_good hokM) rfl rfl rfl hnw (hts _ (q_T_at hinit rfl)) hnm ⟨hRf ▸ hfr, hRl ▸ hlo⟩
      refine q_callW (r1 := r1) (q1 := q1) (va_runSN (As := as.map (q_cv bs)) (rest := rest.map (q_cv bs)) ⟨hx, hb, hml, hown, hts⟩ hMet ⟨hcb2, hts _ (q_T_at hkind rfl), trivial⟩ ⟨q_blind, hPre⟩ rfl ?_ hl.1 ?_ hroom hd hfit) hS (fun H1 locs1 a1 a2 => goOn H1 locs1 a1 a2 rfl)
      · rw [List.length_map, hasl, hna]
      · exact hstk
  · -- invokespecial
    rename_i k2
    cases hk
    simp only [q_ok4] at hok
    split at hok
    rotate_left
    · cases hok
    rename_i x
    rw [hM2] at hok
    simp only [decide_eq_true_eq] at hok
    obtain ⟨rfl, hk0, hlink⟩ := hok
    rw [hk0] at hkind
    simp only [decide_eq_true_eq] at hkind
    obtain ⟨hki, hkn, hkr⟩ := hkind
    simp only [q_rcv, hk0] at hrc
    have hna : q_na M3 = q_mN M3 + 1 := by simp [q_na, hk0]
    rw [← e2] at hrc
    generalize hasc : as = as2 at hrc
    split at hrc
    rotate_left
    · cases hrc
    rename_i a As
    have hlenA : (As.map (q_cv bs)).length = q_mN M3 := by
      have := hasl
      rw [hasc, hna] at this
      simpa using this
    have hstk2 : (F0 m pc ls (st.map (q_cv bs))).stack = (As.map (q_cv bs)).reverse ++ .ref (bs + a) :: rest.map (q_cv bs) := by
      show st.map (q_cv bs) = _
      rw [hstk, hasc]
      simp [q_cv]
    have hPre2 : PreS s H (q_Pc G D bs tc as q) (.ref (bs + a) :: As.map (q_cv bs)) := ⟨q_blind, fun U hU hW => by have := hPre U hU hW; rw [hasc] at this; rw [hasc]; exact this⟩
    unfold q_lnk at hlink
    split at hlink
    · simp only [decide_eq_true_eq] at hlink
      have hcb2 := callB_of (R := R) (rm := ({ frames := q_mF M3, cells := q1.length - q.length, slots := q_sl q1 - q_sl q, locals := q_mO M3 } : Room)) (mc := q1.length - q.length) (ms := q_sl q1 - q_sl q) (q_mN M3) hts (q_good hokM) rfl rfl rfl (hts _ (q_T_at hinit rfl)) (hts _ (q_T_at hlink rfl)) hnm ⟨hRf ▸ hfr, hRl ▸ hlo⟩
      rw [hkr] at hcb2
      exact q_callW (r1 := r1) (q1 := q1) (va_runI (As := As.map (q_cv bs)) (b := bs + a) (rest := rest.map (q_cv bs)) ⟨hx, hb, hml, hown, hts⟩ hMet ⟨hcb2, hkn, hts _ (q_T_at hki rfl)⟩ hPre2 rfl hlenA hl.1 hstk2 hroom hd hfit) hS (fun H1 locs1 a1 a2 => goOn H1 locs1 a1 a2 rfl)
    · split at hlink
      rotate_left
      · cases hlink
      rename_i z hz9
      simp only [decide_eq_true_eq] at hlink
      obtain ⟨z1, z2, z3⟩ := hlink
      have hnw := hN.1 z (List.mem_of_getElem? hz9)
      rw [z1, z2, z3] at hnw
      have hcb2 := va_cnB (R := R) (rm := ({ frames := q_mF M3, cells := q1.length - q.length, slots := q_sl q1 - q_sl q, locals := q_mO M3 } : Room)) (mc := q1.length - q.length) (ms := q_sl q1 - q_sl q) (q_mN M3) hts (q_good hokM) rfl rfl rfl hnw (hts _ (q_T_at hinit rfl)) hnm ⟨hRf ▸ hfr, hRl ▸ hlo⟩
      rw [hkr] at hcb2
      exact q_callW (r1 := r1) (q1 := q1) (va_runIN (As := As.map (q_cv bs)) (b := bs + a) (rest := rest.map (q_cv bs)) ⟨hx, hb, hml, hown, hts⟩ hMet ⟨hcb2, hkn, hts _ (q_T_at hki rfl)⟩ hPre2 rfl hlenA hl.1 hstk2 hroom hd hfit) hS (fun H1 locs1 a1 a2 => goOn H1 locs1 a1 a2 rfl)
  · cases hk
end QINV
end
section
/-- what the pure machine does, the machine does -/
theorem q_main {G : q_G} (hV : q_GV G) (hM : ∀ M ∈ q_gM G, q_okM G M) (l : Launch) (D : va_G) (bs : Nat) (tc : Nat → ClassId) : ∀ (n : Nat) (M : q_MI), M ∈ q_gM G → ∀ (pc : Nat) (lv : q_L) (st : List Value) (q : q_M) (r : Option Value) (qF : q_M), q_run G n M pc lv st q = some (r, qF) →
    ∀ {p : Program} {e : Env} {R : Room} {s : State} {m : MethodId} {args : Array Value} {below : List Frame} {meth : Method} {c : Code} {H : Heap} {locs : List Loc} {cells slots : Nat} {ls : Array Slot} {q0 : q_M}, q_Cx G D bs tc M q0 qF p R s m args meth c → q_Dx G D bs tc M q0 q lv s H locs cells slots ls →
      W p l e R s m args below meth c H locs cells slots (MQ below (q_Qc G D bs tc r qF) args s (qF.length - q0.length) (q_sl qF - q_sl q0) (fun z => bs ≤ z)) (F0 m pc ls (st.map (q_cv bs))) := by
  intro n
  induction n with
  | zero => intro M _ pc lv st q r qF h; simp [q_run] at h
  | succ n ih =>
    intro M hMm pc lv st q r qF h p e R s m args below meth c H locs cells slots ls q0 C X
    have hmono := q_mono (n + 1) M pc lv st q r qF h
    have C0 := C
    obtain ⟨hx, hb, hml, hown, hts, hK, hN, hr, hlocks, hini, hsz, hR⟩ := C
    obtain ⟨hw, hS, hl, hcel, hslo, hq0, hq0s⟩ := X
    subst hR
    have hmls : c.maxLocals = ls.size := hml.trans hl.1.symm
    unfold q_run at h
    split at h
    · cases h
    rename_i I pc0 raw len i pos hfd
    obtain ⟨hI, hpc⟩ := q_fd_mem hfd
    simp only at hpc
    subst hpc
    have hok := List.all_eq_true.mp (hM M hMm).2 _ hI
    simp only [Bool.and_eq_true, decide_eq_true_eq, q_okI] at hok
    obtain ⟨hd, hok⟩ := hok
    split at h
    · -- pure
      rename_i hg
      rw [hg] at hok
      split at h
      rotate_left
      · cases h
      rename_i pc1 l1 st1 hp
      exact q_pureW hx hb hd hok hl hp (fun ls1 hl1 => ih M hMm _ _ _ _ _ _ h C0 ⟨hw, hS, hl1, hcel, hslo, hq0, hq0s⟩)
    · -- memory
      rename_i hg
      rw [hg] at hok
      split at h
      rotate_left
      · cases h
      rename_i st1 q1 hp
      have hz := q_mem_sz hp
      exact q_memW hx hb hmls hV hown hts hK hini hd hok hw hS hp (fun H1 locs1 hw1 hS1 => ih M hMm _ _ _ _ _ _ h C0 ⟨hw1, hS1, hl, by rw [hz.1]; exact hcel, by rw [hz.2]; exact hslo, by rw [hz.1]; exact hq0, by rw [hz.2]; exact hq0s⟩)
    · -- a new cell
      rename_i hg
      rw [hg] at hok
      split at h
      rotate_left
      · cases h
      rename_i st1 x hp
      have hm2 := q_mono n _ _ _ _ _ _ _ h
      rw [q_sl_push, List.length_append] at hm2
      have hm3 : q.length + 1 ≤ qF.length := hm2.1
      refine q_sized (fun hup => ?_)
      have hlow := q_low hw hS hsz
      have hzz : H.size = bs + q.length := by omega
      refine q_newW hx hb hV hown hts hK hN.2 hd hok hw hS hzz hp (by show cells + 1 ≤ qF.length - q0.length; omega) (by show slots + q_sz x ≤ q_sl qF - q_sl q0; omega) (fun H1 hw1 hS1 => ?_)
      exact ih M hMm _ _ _ _ _ _ h C0 ⟨hw1, hS1, hl, by rw [List.length_append]; show cells + 1 = q.length + 1 - q0.length; omega, by rw [q_sl_push]; omega, by rw [List.length_append]; omega, by rw [q_sl_push]; omega⟩
    · -- call or return
      rename_i hg
      rw [hg] at hok
      split at h
      · -- call
        rename_i k hk
        split at h
        rotate_left
        · cases h
        rename_i M1 as rest hcall
        split at h
        rotate_left
        · cases h
        rename_i r1 q1 hrun
        have hMs : M1 ∈ q_gM G := by
          unfold q_call at hcall
          split at hcall
          · cases hcall
          rename_i M3 hM3
          split at hcall
          · cases hcall
            exact List.mem_of_getElem? hM3
          · cases hcall
        have hokM := hM M1 hMs
        have hm1 := q_mono n _ _ _ _ _ _ _ hrun
        have hm2 := q_mono n _ _ _ _ _ _ _ h
        refine q_sized (fun hup => ?_)
        have hlow := q_low hw hS hsz
        have hzz : H.size = bs + q.length := by omega
        exact q_invW hx hb hml hown hts hK hN hokM rfl rfl hd hok hk hcall (fun hcas => q_metI hokM hm1 hcas (fun C X => ih M1 hMs _ _ _ _ _ _ hrun C X)) hw hS hl hzz ⟨by show cells + _ ≤ qF.length - q0.length; omega, by show slots + _ ≤ q_sl qF - q_sl q0; omega⟩ (fun H1 locs1 hw1 hS1 => ih M hMm _ _ _ _ _ _ h C0 ⟨hw1, hS1, hl, by omega, by omega, by omega, by omega⟩)
      · -- return
        split at h
        rotate_left
        · cases h
        rename_i r1 hp
        have e0 := Option.some.inj h
        have e1 : r1 = r := congrArg Prod.fst e0
        have e2 : q = qF := congrArg Prod.snd e0
        subst e1
        subst e2
        subst hcel
        subst hslo
        unfold q_retn at hp
        split at hp
        · simp only [q_ok4, decide_eq_true_eq] at hok
          obtain ⟨rfl, rfl⟩ := hok
          split at hp
          rotate_left
          · cases hp
          split at hp
          rotate_left
          · cases hp
          rename_i v _ ty hty
          split at hp
          rotate_left
          · cases hp
          rename_i hnar
          cases hp
          exact W.zret hx hb (hr.trans hty) hnar (fun t ht hW => ⟨rfl, by rw [ht]; exact hw, hS.F ht⟩) hS.2.2 hd hlocks
        · simp only [q_ok4, decide_eq_true_eq] at hok
          obtain ⟨rfl, rfl⟩ := hok
          split at hp
          rotate_left
          · cases hp
          split at hp
          rotate_left
          · cases hp
          rename_i hty
          cases hp
          exact W.lret hx hb (hr.trans hty) (fun t ht hW => ⟨rfl, by rw [ht]; exact hw, hS.F ht⟩) hS.2.2 hd hlocks
        · simp only [q_ok4, decide_eq_true_eq] at hok
          obtain ⟨rfl, rfl⟩ := hok
          split at hp
          rotate_left
          · cases hp
          split at hp
          rotate_left
          · cases hp
          rename_i hty
          cases hp
          exact W.vret hx hb (hr.trans hty) (fun t ht hW => ⟨rfl, by rw [ht]; exact hw, hS.F ht⟩) hS.2.2 hd hlocks
        · cases hp
    · -- a constant
      rename_i hg0 hg1 hg2 hg3
      split at hok
      · exact absurd (by assumption) hg0
      · exact absurd (by assumption) hg1
      · exact absurd (by assumption) hg2
      · exact absurd (by assumption) hg3
      split at h
      rotate_left
      · cases h
      rename_i st1 hp
      have K := ih M hMm _ _ _ _ _ _ h C0 (below := below) (e := e) (ls := ls) (H := H) (locs := locs) (cells := cells) (slots := slots) ⟨hw, hS, hl, hcel, hslo, hq0, hq0s⟩
      unfold q_lk at hp
      split at hp
      · cases hp
        simp only [q_ok5] at hok
        split at hok
        · simp only [decide_eq_true_eq] at hok
          obtain ⟨rfl, hlk⟩ := hok
          exact lv_ldc hx hb hown (hts _ (q_T_at hlk rfl)) hd K
        · simp only [decide_eq_true_eq] at hok
          obtain ⟨rfl, hlk⟩ := hok
          exact lv_ldcw hx hb hown (hts _ (q_T_at hlk rfl)) hd K
        · cases hok
      · cases hp
        simp only [q_ok5] at hok
        split at hok
        · simp only [decide_eq_true_eq] at hok
          obtain ⟨rfl, hlk⟩ := hok
          exact lv_ldc2 hx hb hown (hts _ (q_T_at hlk rfl)) hd K
        · cases hok
      · cases hp
end
section
/-! THE LAW's OWN WALK: as a method's, but for the script, which lies outside -/
theorem q_start {G : q_G} (hV : q_GV G) {args : Array Value} {s : State} (hts : ∀ w ∈ q_T G, w.before args s = true)
    (hty : ∀ (t : Nat) (ty : FieldType), (q_gA G)[t]? = some ty → ((∀ C, ty ≠ .object C) ∧ Cond.arrayClass ty ∈ q_T G) ∨ ∃ C, ty = .object C ∧ va_AO C s) : ∃ (D : va_G) (tc : Nat → ClassId), va_K D (q_gC G) (q_tyl G tc) s := by
  have h1 : ∀ ci : Nat, ∃ (cC : ClassId) (iS : Nat → Nat), ∀ q : vw_C, (q_gC G)[ci]? = some q → u_Kn s q.1 q.2.1 q.2.2 cC iS := by
    intro ci
    cases hc : (q_gC G)[ci]? with
    | none => exact ⟨0, fun _ => 0, fun q h => by cases h⟩
    | some z =>
      obtain ⟨C, T, N⟩ := z
      obtain ⟨cC, iS, h⟩ := u_known (C := C) (T := T) (N := N) (n := N) hts (hV.1 ci C T N hc).1 (hts _ (hV.1 ci C T N hc).2.2.2.1)
      exact ⟨cC, iS, fun q hq => by cases hq; exact h⟩
  have h2 : ∀ t : Nat, ∃ cA : ClassId, ∀ ty : FieldType, (q_gA G)[t]? = some ty → ArrOfT s cA ty ∧ va_RA s cA ty := by
    intro t
    cases ht : (q_gA G)[t]? with
    | none => exact ⟨0, fun q h => by cases h⟩
    | some ty =>
      rcases hty t ty ht with ⟨hno, hw⟩ | ⟨C, rfl, hao⟩
      · obtain ⟨cA, kA, comp, e1, e2, e3⟩ := Cond.arrayClass_spec (hts _ hw)
        refine ⟨cA, fun ty2 h => ?_⟩
        cases h
        refine ⟨fun n z => ⟨fun k h => (by cases h), kA, e2, comp, e3⟩, ?_⟩
        cases ty with
        | object C => exact absurd rfl (hno C)
        | _ => exact e1
      · obtain ⟨comp, cA, kA, e1, -, e2, e3, e4⟩ := Cond.arrayOver_spec (va_AO.use (A := args) hao)
        refine ⟨cA, fun ty2 h => ?_⟩
        cases h
        exact ⟨fun n z => ⟨fun k h => (by cases h), kA, e2, comp, e3⟩, kA, comp, e2, e3, e1, e4⟩
  refine ⟨(fun ci => Classical.choose (h1 ci), fun ci => Classical.choose (Classical.choose_spec (h1 ci))), fun t => Classical.choose (h2 t), ?_, ?_⟩
  · intro ci q hq
    exact Classical.choose_spec (Classical.choose_spec (h1 ci)) q hq
  · intro k q hk
    simp only [q_tyl, List.getElem?_mapIdx, Option.map_eq_some_iff] at hk
    obtain ⟨ty, h3, rfl⟩ := hk
    exact Classical.choose_spec (h2 k) ty h3
def q_scr (b L : Nat) (xs : Nat → Int32) (i : Instr) (st : List Value) : Option (List Value) := match i with
  | .iaload => (match st with | .int j :: .retAddr a :: r => if a = b ∧ q_in j L = true then some (.int (xs j.toNatClampNeg) :: r) else none | _ => none)
  | .arraylength => (match st with | .retAddr a :: r => if a = b then some (.int (Int32.ofNat L) :: r) else none | _ => none)
  | _ => none
/-- the law, purely: its answer and the memory -/
def q_lrun (G : q_G) (b L : Nat) (xs : Nat → Int32) (M : q_MI) : Nat → Nat → q_L → List Value → q_M → Option (Int32 × q_M)
  | 0, _, _, _, _ => none
  | n + 1, pc, l, st, m => match q_fd (q_mC M) pc with
    | none => none
    | some (_, _, len, i, _) => match q_grp i with
      | 0 => (match q_pure (q_mL M) pc len i l st with | some (pc1, l1, st1) => q_lrun G b L xs M n pc1 l1 st1 m | none => none)
      | 1 => (match q_scr b L xs i st with | some st1 => q_lrun G b L xs M n (pc + len) l st1 m | none => none)
      | 2 => (match q_new G i st m with | some (st1, x) => q_lrun G b L xs M n (pc + len) l st1 (m ++ [x]) | none => none)
      | 3 => (match q_cnum i with
          | some k => (match q_call G M k st m with
              | some (M1, as, rest) => (match q_run G n M1 0 (lv_args 0 as) [] m with | some (r, m1) => q_lrun G b L xs M n (pc + len) l (r.toList ++ rest) m1 | none => none)
              | none => none)
          | none => (match i, st with | .ireturn, [.int v] => some (v, m) | _, _ => none))
      | _ => (match q_lk i st with | some st1 => q_lrun G b L xs M n (pc + len) l st1 m | none => none)
theorem q_lmono {G : q_G} {b L : Nat} {xs : Nat → Int32} {M : q_MI} : ∀ (n pc : Nat) (lv : q_L) (st : List Value) (q : q_M) (v : Int32) (qF : q_M), q_lrun G b L xs M n pc lv st q = some (v, qF) → q.length ≤ qF.length ∧ q_sl q ≤ q_sl qF
  | 0, _, _, _, _, _, _, h => by simp [q_lrun] at h
  | n + 1, pc, lv, st, q, v, qF, h => by
    unfold q_lrun at h
    split at h
    · cases h
    · split at h
      · split at h
        · exact q_lmono n _ _ _ _ _ _ h
        · cases h
      · split at h
        · exact q_lmono n _ _ _ _ _ _ h
        · cases h
      · split at h
        · have h2 := q_lmono n _ _ _ _ _ _ h
          rw [q_sl_push, List.length_append] at h2
          exact ⟨by omega, by omega⟩
        · cases h
      · split at h
        · split at h
          · split at h
            · rename_i h1
              have h2 := q_lmono n _ _ _ _ _ _ h
              have h3 := q_mono n _ _ _ _ _ _ _ h1
              exact ⟨by omega, by omega⟩
            · cases h
          · cases h
        · split at h
          · cases h
            exact ⟨Nat.le_refl _, Nat.le_refl _⟩
          · cases h
      · split at h
        · exact q_lmono n _ _ _ _ _ _ h
        · cases h
section QLAW
variable {p : Program} {l : Launch} {e : Env} {R : Room} {s : State} {m : MethodId} {args : Array Value} {below : List Frame} {meth : Method} {c : Code} {Q : State → Prop}
variable {G : q_G} {D : va_G} {bs : Nat} {tc : Nat → ClassId}
theorem q_lmain (hV : q_GV G) (hM : ∀ M ∈ q_gM G, q_okM G M) {M : q_MI} (hC : q_okC G M = true) {b L : Nat} {xs : Nat → Int32} (hx : p.tables.exec = Jvm.exec) (hb : c.code = q_mB M) (hml : c.maxLocals = q_mL M) (hown : s.vm.findClass (q_mY M).cls = some m.cls) (hts : ∀ w ∈ q_T G, w.before args s = true) (hK : va_K D (q_gC G) (q_tyl G tc) s) (hN : q_Nst G s)
    (hsz : s.heap.size = bs) (hX : va_X b L xs s s.heap) (hbl : b < s.heap.size) (hRf : q_mF M = R.frames) (hRl : q_mO M = R.locals) {qF : q_M} {v : Int32} (hRc : qF.length ≤ R.cells) (hRs : q_sl qF ≤ R.slots)
    (fin : ∀ (pc : Nat) (H : Heap) (ls : Array Slot) (locs : List Loc), decode (q_mB M) pc = .ok (.ireturn, 1) → va_S (fun z => bs ≤ z) s.heap H locs → W p l e R s m args below meth c H locs qF.length (q_sl qF) Q (F0 m pc ls [.int v])) :
    ∀ (n pc : Nat) (lv : q_L) (st : List Value) (q : q_M), q_lrun G b L xs M n pc lv st q = some (v, qF) → ∀ {H : Heap} {locs : List Loc} {ls : Array Slot}, q_Wd D (q_gC G) bs tc q H → va_S (fun z => bs ≤ z) s.heap H locs → lv_has ls (q_mL M) (q_cl bs lv) →
      W p l e R s m args below meth c H locs q.length (q_sl q) Q (F0 m pc ls (st.map (q_cv bs))) := by
  intro n
  induction n with
  | zero => intro pc lv st q h; simp [q_lrun] at h
  | succ n ih =>
    intro pc lv st q h H locs ls hw hS hl
    have hsz0 : s.heap.size = bs + ([] : q_M).length := by simpa using hsz
    unfold q_lrun at h
    split at h
    · cases h
    rename_i I pc0 raw len i pos hfd
    obtain ⟨hI, hpc⟩ := q_fd_mem hfd
    simp only at hpc
    subst hpc
    have hok := List.all_eq_true.mp hC _ hI
    simp only [Bool.and_eq_true, decide_eq_true_eq, q_okI] at hok
    obtain ⟨hd, hok⟩ := hok
    split at h
    · rename_i hg
      rw [hg] at hok
      split at h
      rotate_left
      · cases h
      rename_i pc1 l1 st1 hp
      exact q_pureW hx hb hd hok hl hp (fun ls1 hl1 => ih _ _ _ _ h hw hS hl1)
    · rename_i hg
      rw [hg] at hok
      split at h
      rotate_left
      · cases h
      rename_i st1 hp
      have hbA : ¬ (fun z => bs ≤ z) b := by simp only; omega
      unfold q_scr at hp
      split at hp
      · simp only [q_ok2, decide_eq_true_eq] at hok
        obtain ⟨rfl, rfl, -⟩ := hok
        split at hp
        rotate_left
        · cases hp
        rename_i j a r
        split at hp
        rotate_left
        · cases hp
        rename_i hc
        obtain ⟨rfl, hin⟩ := hc
        cases hp
        exact va_sld (A := fun z => bs ≤ z) hx hb hX hbl hbA hS (q_in_vp hin) hd (ih _ _ _ _ h hw hS hl)
      · simp only [q_ok2, decide_eq_true_eq] at hok
        obtain ⟨rfl, rfl⟩ := hok
        split at hp
        rotate_left
        · cases hp
        rename_i a r
        split at hp
        rotate_left
        · cases hp
        rename_i hc
        subst hc
        cases hp
        exact va_slen (A := fun z => bs ≤ z) hx hb hX hbl hbA hS hd (ih _ _ _ _ h hw hS hl)
      · cases hp
    · rename_i hg
      rw [hg] at hok
      split at h
      rotate_left
      · cases h
      rename_i st1 x hp
      have hm2 := q_lmono n _ _ _ _ _ _ h
      rw [q_sl_push, List.length_append] at hm2
      have hm3 : q.length + 1 ≤ qF.length := hm2.1
      refine q_sized (fun hup => ?_)
      have hlow := q_low hw hS hsz0
      have hzz : H.size = bs + q.length := by omega
      refine q_newW hx hb hV hown hts hK hN.2 hd hok hw hS hzz hp (by omega) (by omega) (fun H1 hw1 hS1 => ?_)
      have K := ih _ _ _ _ h hw1 hS1 hl
      rw [q_sl_push, List.length_append] at K
      exact K
    · rename_i hg
      rw [hg] at hok
      split at h
      · rename_i k hk
        split at h
        rotate_left
        · cases h
        rename_i M1 as rest hcall
        split at h
        rotate_left
        · cases h
        rename_i r1 q1 hrun
        have hMs : M1 ∈ q_gM G := by
          unfold q_call at hcall
          split at hcall
          · cases hcall
          rename_i M3 hM3
          split at hcall
          · cases hcall
            exact List.mem_of_getElem? hM3
          · cases hcall
        have hokM := hM M1 hMs
        have hm1 := q_mono n _ _ _ _ _ _ _ hrun
        have hm2 := q_lmono n _ _ _ _ _ _ h
        refine q_sized (fun hup => ?_)
        have hlow := q_low hw hS hsz0
        have hzz : H.size = bs + q.length := by omega
        refine q_invW hx hb hml hown hts hK hN hokM hRf hRl hd hok hk hcall (fun hcas => q_metI hokM hm1 hcas (fun C X => q_main hV hM l D bs tc n M1 hMs _ _ _ _ _ _ hrun C X)) hw hS hl hzz ⟨by omega, by omega⟩ (fun H1 locs1 hw1 hS1 => ?_)
        have K := ih _ _ _ _ h hw1 hS1 hl
        rw [show q.length + (q1.length - q.length) = q1.length by omega, show q_sl q + (q_sl q1 - q_sl q) = q_sl q1 by omega]
        exact K
      · split at h
        rotate_left
        · cases h
        have e0 := Option.some.inj h
        have e1 := congrArg Prod.fst e0
        have e2 : q = qF := congrArg Prod.snd e0
        simp only at e1
        subst e1
        subst e2
        simp only [q_ok4, decide_eq_true_eq] at hok
        obtain ⟨rfl, rfl⟩ := hok
        exact fin _ H ls locs hd hS
    · rename_i hg0 hg1 hg2 hg3
      split at hok
      · exact absurd (by assumption) hg0
      · exact absurd (by assumption) hg1
      · exact absurd (by assumption) hg2
      · exact absurd (by assumption) hg3
      split at h
      rotate_left
      · cases h
      rename_i st1 hp
      have K := ih _ _ _ _ h hw hS hl
      unfold q_lk at hp
      split at hp
      · cases hp
        simp only [q_ok5] at hok
        split at hok
        · simp only [decide_eq_true_eq] at hok
          obtain ⟨rfl, hlk⟩ := hok
          exact lv_ldc hx hb hown (hts _ (q_T_at hlk rfl)) hd K
        · simp only [decide_eq_true_eq] at hok
          obtain ⟨rfl, hlk⟩ := hok
          exact lv_ldcw hx hb hown (hts _ (q_T_at hlk rfl)) hd K
        · cases hok
      · cases hp
        simp only [q_ok5] at hok
        split at hok
        · simp only [decide_eq_true_eq] at hok
          obtain ⟨rfl, hlk⟩ := hok
          exact lv_ldc2 hx hb hown (hts _ (q_T_at hlk rfl)) hd K
        · cases hok
      · cases hp
end QLAW
end
section
/-! decoding by a window of the bytes: what a reader takes out of a part, it takes out of the whole -/
def z_S (all w : ByteArray) (n : Nat) {α : Type} (r1 r2 : Decoder α) : Prop := ∀ (pos : Nat) (a : α) (q : Nat), r2.runAt w pos = .ok (a, q) → r1.runAt all (n + pos) = .ok (a, n + q)
theorem z_pure {all w : ByteArray} {n : Nat} {α : Type} (a : α) : z_S all w n (pure a) (pure a) := by
  intro pos x q h
  have h1 : (Except.ok (a, pos) : Except DecodeError (α × Nat)) = .ok (x, q) := h
  cases h1
  rfl
theorem z_bind {all w : ByteArray} {n : Nat} {α β : Type} {r1 r2 : Decoder α} {f1 f2 : α → Decoder β} (h : z_S all w n r1 r2) (hf : ∀ a, z_S all w n (f1 a) (f2 a)) : z_S all w n (r1 >>= f1) (r2 >>= f2) := by
  intro pos x q hh
  have e2 : (r2 >>= f2).runAt w pos = (r2.runAt w pos) >>= fun z => (f2 z.1).runAt w z.2 := rfl
  have e1 : (r1 >>= f1).runAt all (n + pos) = (r1.runAt all (n + pos)) >>= fun z => (f1 z.1).runAt all z.2 := rfl
  rw [e2] at hh
  rw [e1]
  cases hr : r2.runAt w pos with
  | error z => rw [hr] at hh; cases hh
  | ok z =>
    obtain ⟨a, p⟩ := z
    rw [hr] at hh
    rw [h pos a p hr]
    exact hf a p x q hh
theorem z_map {all w : ByteArray} {n : Nat} {α β : Type} {r1 r2 : Decoder α} {f : α → β} (h : z_S all w n r1 r2) : z_S all w n (f <$> r1) (f <$> r2) := by
  intro pos x q hh
  have e2 : (f <$> r2).runAt w pos = (r2.runAt w pos) >>= fun z => .ok (f z.1, z.2) := rfl
  have e1 : (f <$> r1).runAt all (n + pos) = (r1.runAt all (n + pos)) >>= fun z => .ok (f z.1, z.2) := rfl
  rw [e2] at hh
  rw [e1]
  cases hr : r2.runAt w pos with
  | error z => rw [hr] at hh; cases hh
  | ok z =>
    obtain ⟨a, p⟩ := z
    rw [hr] at hh
    rw [h pos a p hr]
    cases hh
    rfl
def z_In (all w : ByteArray) (n : Nat) : Prop := ∀ i, (hi : i < w.size) → ∃ hj : n + i < all.size, all[n + i] = w[i]
theorem z_u1at (w : ByteArray) (pos : Nat) : (Reader.u1 : Decoder Nat).runAt w pos = if h : pos < w.size then .ok (w[pos].toNat, pos + 1) else .error (HasTruncated.truncated pos) := by
  have e : (Reader.u1 : Decoder Nat).runAt w pos = (dite (pos < w.size) (fun h => (fun (_ : ByteArray) (_ : Nat) => (Except.ok (w[pos].toNat, pos + 1) : Except DecodeError (Nat × Nat)))) (fun _ => fun _ _ => .error (HasTruncated.truncated pos))) w pos := by
    by_cases hp : pos < w.size
    · rw [dif_pos hp]
      show (dite (pos < w.size) _ _ : Decoder Nat) w pos = _
      rw [dif_pos hp]
      rfl
    · rw [dif_neg hp]
      show (dite (pos < w.size) _ _ : Decoder Nat) w pos = _
      rw [dif_neg hp]
      rfl
  rw [e]
  split <;> rfl
theorem z_u1 {all w : ByteArray} {n : Nat} (h : z_In all w n) : z_S all w n (Reader.u1 : Decoder Nat) Reader.u1 := by
  intro pos x q hh
  rw [z_u1at] at hh
  rw [z_u1at]
  by_cases hp : pos < w.size
  · rw [dif_pos hp] at hh
    cases hh
    obtain ⟨hj, he⟩ := h pos hp
    rw [dif_pos hj, he]
    rfl
  · rw [dif_neg hp] at hh
    cases hh
theorem z_u2 {all w : ByteArray} {n : Nat} (h : z_In all w n) : z_S all w n (Reader.u2 : Decoder Nat) Reader.u2 := z_bind (z_u1 h) (fun a => z_bind (z_u1 h) (fun b => z_pure _))
theorem z_s1 {all w : ByteArray} {n : Nat} (h : z_In all w n) : z_S all w n (Reader.s1 : Decoder Int) Reader.s1 := z_map (z_u1 h)
theorem z_s2 {all w : ByteArray} {n : Nat} (h : z_In all w n) : z_S all w n (Reader.s2 : Decoder Int) Reader.s2 := z_map (z_u2 h)
theorem z_err {all w : ByteArray} {n : Nat} {α : Type} {r1 : Decoder α} (e1 : DecodeError) : z_S all w n r1 (fun _ _ => .error e1) := by
  intro pos x q hh
  cases hh
def z_sw (b : Nat) : Bool := b == 170 || b == 171 || b == 185 || b == 186 || b == 188 || b == 196 || b == 197 || b == 200 || b == 201
theorem z_bind0 {all w : ByteArray} {n : Nat} {β : Type} {f1 f2 : Nat → Decoder β} (h : z_In all w n) (hw : ∀ (hi : 0 < w.size), z_sw w[0].toNat = false) (hf : ∀ a, z_sw a = false → z_S all w n (f1 a) (f2 a)) {x : β} {q : Nat} (hh : ((Reader.u1 : Decoder Nat) >>= f2).runAt w 0 = .ok (x, q)) : ((Reader.u1 : Decoder Nat) >>= f1).runAt all n = .ok (x, n + q) := by
  have e2 : ((Reader.u1 : Decoder Nat) >>= f2).runAt w 0 = ((Reader.u1 : Decoder Nat).runAt w 0) >>= fun z => (f2 z.1).runAt w z.2 := rfl
  have e1 : ((Reader.u1 : Decoder Nat) >>= f1).runAt all (n + 0) = ((Reader.u1 : Decoder Nat).runAt all (n + 0)) >>= fun z => (f1 z.1).runAt all z.2 := rfl
  rw [e2] at hh
  show ((Reader.u1 : Decoder Nat) >>= f1).runAt all (n + 0) = _
  rw [e1]
  cases hr : (Reader.u1 : Decoder Nat).runAt w 0 with
  | error z => rw [hr] at hh; cases hh
  | ok z =>
    obtain ⟨a, p⟩ := z
    have ha : z_sw a = false := by
      rw [z_u1at] at hr
      by_cases hp : 0 < w.size
      · rw [dif_pos hp] at hr
        cases hr
        exact hw hp
      · rw [dif_neg hp] at hr
        cases hr
    rw [hr] at hh
    rw [z_u1 h 0 a p hr]
    exact hf a ha p x q hh
set_option maxHeartbeats 40000000 in
set_option maxRecDepth 100000 in
theorem z_instr {all w : ByteArray} {n pc : Nat} (h : z_In all w n) (hw : ∀ (hi : 0 < w.size), z_sw w[0].toNat = false) {a : Instr} {q : Nat} (hh : (Decoder.instr 0).runAt w 0 = .ok (a, q)) : (Decoder.instr pc).runAt all n = .ok (a, n + q) := by
  unfold Decoder.instr at hh ⊢
  refine z_bind0 h hw (fun op hop => ?_) hh
  split
  all_goals first
    | exact z_pure _
    | exact z_err _
    | exact z_bind (z_u1 h) (fun _ => z_pure _)
    | exact z_bind (z_u2 h) (fun _ => z_pure _)
    | exact z_bind (z_s1 h) (fun _ => z_pure _)
    | exact z_bind (z_s2 h) (fun _ => z_pure _)
    | exact z_bind (z_u1 h) (fun _ => z_bind (z_s1 h) (fun _ => z_pure _))
    | exact absurd hop (by decide)
theorem z_decode {all w : ByteArray} {n : Nat} (h : z_In all w n) (hw : ∀ (hi : 0 < w.size), z_sw w[0].toNat = false) {a : Instr} {q : Nat} (hh : decode w 0 = .ok (a, q)) : decode all n = .ok (a, q) := by
  have e2 : decode w 0 = (Decoder.instr 0).runAt w 0 >>= fun z => .ok (z.1, z.2 - 0) := rfl
  have e1 : decode all n = (Decoder.instr n).runAt all n >>= fun z => .ok (z.1, z.2 - n) := rfl
  rw [e2] at hh
  rw [e1]
  cases hr : (Decoder.instr 0).runAt w 0 with
  | error z => rw [hr] at hh; cases hh
  | ok z =>
    obtain ⟨b, p⟩ := z
    rw [hr] at hh
    rw [z_instr (pc := n) h hw hr]
    cases hh
    show (Except.ok (b, n + p - n) : Except DecodeError (Instr × Nat)) = .ok (b, p - 0)
    rw [Nat.add_sub_cancel_left, Nat.sub_zero]
end
section
/-- the rows of a code table against the bytes, one walk through them -/
def z_rows (all : ByteArray) : Nat → List UInt8 → List q_I → Bool
  | _, _, [] => true
  | cur, l, I :: C => decide (cur ≤ I.1) && (match l.drop (I.1 - cur) with
    | [] => false
    | b :: r => (match z_sw b.toNat with
      | true => decide (decode all I.1 = .ok (I.2.1, I.2.2.1))
      | false => decide (decode ⟨((b :: r).take 5).toArray⟩ 0 = .ok (I.2.1, I.2.2.1))) && z_rows all I.1 (b :: r) C)
theorem z_win {all : ByteArray} {n : Nat} {l : List UInt8} (h : all.data.toList.drop n = l) : z_In all ⟨(l.take 5).toArray⟩ n := by
  intro i hi
  have hi2 : i < (l.take 5).length := by
    simpa [ByteArray.size] using hi
  have hl : i < l.length := by
    rw [List.length_take] at hi2
    omega
  have hj : n + i < all.data.toList.length := by
    rw [← h, List.length_drop] at hl
    omega
  refine ⟨by have h9 := hj; rw [Array.length_toList] at h9; exact h9, ?_⟩
  show all.data[n + i]'(by simpa using hj) = ((l.take 5).toArray)[i]'(by simpa using hi2)
  have e1 : all.data[n + i]'(by simpa using hj) = all.data.toList[n + i]'hj := by simp
  have e2 : ((l.take 5).toArray)[i]'(by simpa using hi2) = l[i]'hl := by simp [List.getElem_take]
  rw [e1, e2]
  subst h
  simp [List.getElem_drop]
theorem z_rows_ok {all : ByteArray} : ∀ (C : List q_I) (cur : Nat) (l : List UInt8), all.data.toList.drop cur = l → z_rows all cur l C = true → ∀ I ∈ C, decode all I.1 = .ok (I.2.1, I.2.2.1)
  | [], _, _, _, _, I, hI => by cases hI
  | J :: C, cur, l, hl, h, I, hI => by
    simp only [z_rows, Bool.and_eq_true, decide_eq_true_eq] at h
    obtain ⟨hc, h⟩ := h
    have hd : all.data.toList.drop J.1 = l.drop (J.1 - cur) := by
      rw [← hl, List.drop_drop]
      congr 1
      omega
    split at h
    · cases h
    · rename_i b r hbr
      rw [hbr] at hd
      simp only [Bool.and_eq_true] at h
      obtain ⟨h1, h2⟩ := h
      have key : decode all J.1 = .ok (J.2.1, J.2.2.1) := by
        split at h1
        · exact of_decide_eq_true h1
        · rename_i hsw
          refine z_decode (z_win hd) (fun hi => ?_) (of_decide_eq_true h1)
          have : (ByteArray.mk ((b :: r).take 5).toArray)[0]'hi = b := by
            show (((b :: r).take 5).toArray)[0]'(by simp) = b
            simp
          rw [this]
          exact hsw
      rcases List.mem_cons.mp hI with rfl | hI
      · exact key
      · exact z_rows_ok C J.1 (b :: r) hd h2 I hI
def z_okC (G : q_G) (M : q_MI) : Bool := z_rows (q_mB M) 0 (q_mB M).data.toList (q_mC M) && (q_mC M).all (fun I => q_okI G (q_mY M).cls (q_mK M) I)
theorem z_okC_ok {G : q_G} {M : q_MI} (h : z_okC G M = true) : q_okC G M = true := by
  simp only [z_okC, Bool.and_eq_true] at h
  refine List.all_eq_true.mpr (fun I hI => ?_)
  simp only [Bool.and_eq_true, decide_eq_true_eq]
  exact ⟨z_rows_ok _ 0 _ (by simp) h.1 I hI, List.all_eq_true.mp h.2 I hI⟩
end
section
-- ===== PART A: goes FIRST, ahead of the names: the tables' words, and 'selects' of the private methods out of them =====
/-- a private method of a class that the tables say can be made, by its rows of tables_1 -/
def lw_okq (q : MethodName × Nat) : Prop := (q.1.cls ≠ "java/lang/invoke/MethodHandle" ∧ q.1.cls ≠ "java/lang/invoke/VarHandle") ∧ Cond.instantiable q.1.cls q.2 ∈ tables_1 ∧ Cond.privateMethod q.1 ∈ tables_1 ∧ Cond.instanceMethod q.1 ∈ tables_1
theorem lw_p0 : lw_okq (⟨"SisterCount$Reader", "step", "()V"⟩, 7) := ⟨⟨by decide +kernel, by decide +kernel⟩, List.mem_of_getElem? (i := 46) (by decide +kernel), List.mem_of_getElem? (i := 378) (by decide +kernel), List.mem_of_getElem? (i := 379) (by decide +kernel)⟩
theorem lw_p1 : lw_okq (⟨"SisterCount$Reader", "kindAt", "(I)I"⟩, 7) := ⟨⟨by decide +kernel, by decide +kernel⟩, List.mem_of_getElem? (i := 46) (by decide +kernel), List.mem_of_getElem? (i := 385) (by decide +kernel), List.mem_of_getElem? (i := 386) (by decide +kernel)⟩
theorem lw_p2 : lw_okq (⟨"SisterCount$Reader", "readLine", "(LSisterCount$Town;)V"⟩, 7) := ⟨⟨by decide +kernel, by decide +kernel⟩, List.mem_of_getElem? (i := 46) (by decide +kernel), List.mem_of_getElem? (i := 392) (by decide +kernel), List.mem_of_getElem? (i := 393) (by decide +kernel)⟩
theorem lw_p3 : lw_okq (⟨"SisterCount$Reader", "readSchool", "(LSisterCount$Town;)V"⟩, 7) := ⟨⟨by decide +kernel, by decide +kernel⟩, List.mem_of_getElem? (i := 46) (by decide +kernel), List.mem_of_getElem? (i := 396) (by decide +kernel), List.mem_of_getElem? (i := 397) (by decide +kernel)⟩
theorem lw_p4 : lw_okq (⟨"SisterCount$Reader", "takeWord", "(Ljava/lang/String;)V"⟩, 7) := ⟨⟨by decide +kernel, by decide +kernel⟩, List.mem_of_getElem? (i := 46) (by decide +kernel), List.mem_of_getElem? (i := 401) (by decide +kernel), List.mem_of_getElem? (i := 402) (by decide +kernel)⟩
theorem lw_p5 : lw_okq (⟨"SisterCount$Reader", "isWord", "(Ljava/lang/String;)Z"⟩, 7) := ⟨⟨by decide +kernel, by decide +kernel⟩, List.mem_of_getElem? (i := 46) (by decide +kernel), List.mem_of_getElem? (i := 405) (by decide +kernel), List.mem_of_getElem? (i := 406) (by decide +kernel)⟩
theorem lw_p6 : lw_okq (⟨"SisterCount$Reader", "fail", "(I)V"⟩, 7) := ⟨⟨by decide +kernel, by decide +kernel⟩, List.mem_of_getElem? (i := 46) (by decide +kernel), List.mem_of_getElem? (i := 457) (by decide +kernel), List.mem_of_getElem? (i := 458) (by decide +kernel)⟩
theorem lw_p7 : lw_okq (⟨"SisterCount$Reader", "takeNumber", "(II)I"⟩, 7) := ⟨⟨by decide +kernel, by decide +kernel⟩, List.mem_of_getElem? (i := 46) (by decide +kernel), List.mem_of_getElem? (i := 462) (by decide +kernel), List.mem_of_getElem? (i := 463) (by decide +kernel)⟩
theorem lw_p8 : lw_okq (⟨"SisterCount$Reader", "readHouse", "(LSisterCount$Town;)V"⟩, 7) := ⟨⟨by decide +kernel, by decide +kernel⟩, List.mem_of_getElem? (i := 46) (by decide +kernel), List.mem_of_getElem? (i := 468) (by decide +kernel), List.mem_of_getElem? (i := 469) (by decide +kernel)⟩
theorem lw_p9 : lw_okq (⟨"SisterCount$Reader", "readChild", "(LSisterCount$Town;I)V"⟩, 7) := ⟨⟨by decide +kernel, by decide +kernel⟩, List.mem_of_getElem? (i := 46) (by decide +kernel), List.mem_of_getElem? (i := 473) (by decide +kernel), List.mem_of_getElem? (i := 474) (by decide +kernel)⟩
theorem lw_p10 : lw_okq (⟨"SisterCount$Reader", "takeIfWord", "(Ljava/lang/String;)I"⟩, 7) := ⟨⟨by decide +kernel, by decide +kernel⟩, List.mem_of_getElem? (i := 46) (by decide +kernel), List.mem_of_getElem? (i := 486) (by decide +kernel), List.mem_of_getElem? (i := 487) (by decide +kernel)⟩
theorem lw_p11 : lw_okq (⟨"SisterCount$Reader", "readAsk", "(LSisterCount$Town;)V"⟩, 7) := ⟨⟨by decide +kernel, by decide +kernel⟩, List.mem_of_getElem? (i := 46) (by decide +kernel), List.mem_of_getElem? (i := 494) (by decide +kernel), List.mem_of_getElem? (i := 495) (by decide +kernel)⟩
theorem lw_p12 : lw_okq (⟨"SisterCount$Reader", "takeSort", "()I"⟩, 7) := ⟨⟨by decide +kernel, by decide +kernel⟩, List.mem_of_getElem? (i := 46) (by decide +kernel), List.mem_of_getElem? (i := 498) (by decide +kernel), List.mem_of_getElem? (i := 499) (by decide +kernel)⟩
theorem lw_p13 : lw_okq (⟨"SisterCount$Reader", "readSlip", "(LSisterCount$Town;)V"⟩, 7) := ⟨⟨by decide +kernel, by decide +kernel⟩, List.mem_of_getElem? (i := 46) (by decide +kernel), List.mem_of_getElem? (i := 510) (by decide +kernel), List.mem_of_getElem? (i := 511) (by decide +kernel)⟩
theorem lw_p14 : lw_okq (⟨"SisterCount$Reader", "takeSign", "()V"⟩, 7) := ⟨⟨by decide +kernel, by decide +kernel⟩, List.mem_of_getElem? (i := 46) (by decide +kernel), List.mem_of_getElem? (i := 514) (by decide +kernel), List.mem_of_getElem? (i := 515) (by decide +kernel)⟩
theorem lw_p15 : lw_okq (⟨"SisterCount$Chooser", "reachWith", "(II)V"⟩, 6) := ⟨⟨by decide +kernel, by decide +kernel⟩, List.mem_of_getElem? (i := 203) (by decide +kernel), List.mem_of_getElem? (i := 749) (by decide +kernel), List.mem_of_getElem? (i := 750) (by decide +kernel)⟩
def lw_privs_1 : List (MethodName × Nat) := [(⟨"SisterCount$Reader", "step", "()V"⟩, 7), (⟨"SisterCount$Reader", "kindAt", "(I)I"⟩, 7), (⟨"SisterCount$Reader", "readLine", "(LSisterCount$Town;)V"⟩, 7), (⟨"SisterCount$Reader", "readSchool", "(LSisterCount$Town;)V"⟩, 7), (⟨"SisterCount$Reader", "takeWord", "(Ljava/lang/String;)V"⟩, 7), (⟨"SisterCount$Reader", "isWord", "(Ljava/lang/String;)Z"⟩, 7), (⟨"SisterCount$Reader", "fail", "(I)V"⟩, 7), (⟨"SisterCount$Reader", "takeNumber", "(II)I"⟩, 7), (⟨"SisterCount$Reader", "readHouse", "(LSisterCount$Town;)V"⟩, 7), (⟨"SisterCount$Reader", "readChild", "(LSisterCount$Town;I)V"⟩, 7), (⟨"SisterCount$Reader", "takeIfWord", "(Ljava/lang/String;)I"⟩, 7), (⟨"SisterCount$Reader", "readAsk", "(LSisterCount$Town;)V"⟩, 7), (⟨"SisterCount$Reader", "takeSort", "()I"⟩, 7), (⟨"SisterCount$Reader", "readSlip", "(LSisterCount$Town;)V"⟩, 7), (⟨"SisterCount$Reader", "takeSign", "()V"⟩, 7), (⟨"SisterCount$Chooser", "reachWith", "(II)V"⟩, 6)]
theorem lw_r1 : ∀ q ∈ lw_privs_1, lw_okq q := List.forall_mem_cons.mpr ⟨lw_p0, List.forall_mem_cons.mpr ⟨lw_p1, List.forall_mem_cons.mpr ⟨lw_p2, List.forall_mem_cons.mpr ⟨lw_p3, List.forall_mem_cons.mpr ⟨lw_p4, List.forall_mem_cons.mpr ⟨lw_p5, List.forall_mem_cons.mpr ⟨lw_p6, List.forall_mem_cons.mpr ⟨lw_p7, List.forall_mem_cons.mpr ⟨lw_p8, List.forall_mem_cons.mpr ⟨lw_p9, List.forall_mem_cons.mpr ⟨lw_p10, List.forall_mem_cons.mpr ⟨lw_p11, List.forall_mem_cons.mpr ⟨lw_p12, List.forall_mem_cons.mpr ⟨lw_p13, List.forall_mem_cons.mpr ⟨lw_p14, List.forall_mem_cons.mpr ⟨lw_p15, fun _ h => absurd h List.not_mem_nil⟩⟩⟩⟩⟩⟩⟩⟩⟩⟩⟩⟩⟩⟩⟩⟩
theorem lw_p16 : lw_okq (⟨"SisterCount$Chooser", "isReached", "(III)Z"⟩, 6) := ⟨⟨by decide +kernel, by decide +kernel⟩, List.mem_of_getElem? (i := 203) (by decide +kernel), List.mem_of_getElem? (i := 753) (by decide +kernel), List.mem_of_getElem? (i := 754) (by decide +kernel)⟩
theorem lw_p17 : lw_okq (⟨"SisterCount$Chooser", "farFromDue", "(I)I"⟩, 6) := ⟨⟨by decide +kernel, by decide +kernel⟩, List.mem_of_getElem? (i := 203) (by decide +kernel), List.mem_of_getElem? (i := 762) (by decide +kernel), List.mem_of_getElem? (i := 763) (by decide +kernel)⟩
theorem lw_p18 : lw_okq (⟨"SisterCount$Chooser", "leastSetOf", "(II)I"⟩, 6) := ⟨⟨by decide +kernel, by decide +kernel⟩, List.mem_of_getElem? (i := 203) (by decide +kernel), List.mem_of_getElem? (i := 771) (by decide +kernel), List.mem_of_getElem? (i := 772) (by decide +kernel)⟩
theorem lw_p19 : lw_okq (⟨"SisterCount$Answers", "agreeing", "(III)I"⟩, 3) := ⟨⟨by decide +kernel, by decide +kernel⟩, List.mem_of_getElem? (i := 187) (by decide +kernel), List.mem_of_getElem? (i := 878) (by decide +kernel), List.mem_of_getElem? (i := 879) (by decide +kernel)⟩
theorem lw_p20 : lw_okq (⟨"SisterCount$Answers", "to", "(II)I"⟩, 3) := ⟨⟨by decide +kernel, by decide +kernel⟩, List.mem_of_getElem? (i := 187) (by decide +kernel), List.mem_of_getElem? (i := 882) (by decide +kernel), List.mem_of_getElem? (i := 883) (by decide +kernel)⟩
theorem lw_p21 : lw_okq (⟨"SisterCount$Answers", "likeOnes", "(II)I"⟩, 3) := ⟨⟨by decide +kernel, by decide +kernel⟩, List.mem_of_getElem? (i := 187) (by decide +kernel), List.mem_of_getElem? (i := 912) (by decide +kernel), List.mem_of_getElem? (i := 913) (by decide +kernel)⟩
theorem lw_p22 : lw_okq (⟨"SisterCount$Answers", "areAlike", "(III)Z"⟩, 3) := ⟨⟨by decide +kernel, by decide +kernel⟩, List.mem_of_getElem? (i := 187) (by decide +kernel), List.mem_of_getElem? (i := 916) (by decide +kernel), List.mem_of_getElem? (i := 917) (by decide +kernel)⟩
theorem lw_p23 : lw_okq (⟨"SisterCount", "loadTold", "(I)I"⟩, 12) := ⟨⟨by decide +kernel, by decide +kernel⟩, List.mem_of_getElem? (i := 21) (by decide +kernel), List.mem_of_getElem? (i := 962) (by decide +kernel), List.mem_of_getElem? (i := 963) (by decide +kernel)⟩
theorem lw_p24 : lw_okq (⟨"SisterCount", "threesOf", "(I)I"⟩, 12) := ⟨⟨by decide +kernel, by decide +kernel⟩, List.mem_of_getElem? (i := 21) (by decide +kernel), List.mem_of_getElem? (i := 966) (by decide +kernel), List.mem_of_getElem? (i := 967) (by decide +kernel)⟩
theorem lw_p25 : lw_okq (⟨"SisterCount$Joiner", "sumUp", "()V"⟩, 7) := ⟨⟨by decide +kernel, by decide +kernel⟩, List.mem_of_getElem? (i := 229) (by decide +kernel), List.mem_of_getElem? (i := 990) (by decide +kernel), List.mem_of_getElem? (i := 991) (by decide +kernel)⟩
theorem lw_p26 : lw_okq (⟨"SisterCount$Joiner", "isFirstOfGroup", "(I)Z"⟩, 7) := ⟨⟨by decide +kernel, by decide +kernel⟩, List.mem_of_getElem? (i := 229) (by decide +kernel), List.mem_of_getElem? (i := 995) (by decide +kernel), List.mem_of_getElem? (i := 996) (by decide +kernel)⟩
theorem lw_p27 : lw_okq (⟨"SisterCount$Joiner", "tellAlike", "(II)Z"⟩, 7) := ⟨⟨by decide +kernel, by decide +kernel⟩, List.mem_of_getElem? (i := 229) (by decide +kernel), List.mem_of_getElem? (i := 999) (by decide +kernel), List.mem_of_getElem? (i := 1000) (by decide +kernel)⟩
theorem lw_p28 : lw_okq (⟨"SisterCount$Joiner", "partGroup", "(I)V"⟩, 7) := ⟨⟨by decide +kernel, by decide +kernel⟩, List.mem_of_getElem? (i := 229) (by decide +kernel), List.mem_of_getElem? (i := 1003) (by decide +kernel), List.mem_of_getElem? (i := 1004) (by decide +kernel)⟩
theorem lw_p29 : lw_okq (⟨"SisterCount$Joiner", "groupOf", "(II)I"⟩, 7) := ⟨⟨by decide +kernel, by decide +kernel⟩, List.mem_of_getElem? (i := 229) (by decide +kernel), List.mem_of_getElem? (i := 1007) (by decide +kernel), List.mem_of_getElem? (i := 1008) (by decide +kernel)⟩
theorem lw_p30 : lw_okq (⟨"SisterCount$Joiner", "waysFromFirst", "(IIII)I"⟩, 7) := ⟨⟨by decide +kernel, by decide +kernel⟩, List.mem_of_getElem? (i := 229) (by decide +kernel), List.mem_of_getElem? (i := 1014) (by decide +kernel), List.mem_of_getElem? (i := 1015) (by decide +kernel)⟩
theorem lw_p31 : lw_okq (⟨"SisterCount$Joiner", "waysWith", "(IIIIII)I"⟩, 7) := ⟨⟨by decide +kernel, by decide +kernel⟩, List.mem_of_getElem? (i := 229) (by decide +kernel), List.mem_of_getElem? (i := 1018) (by decide +kernel), List.mem_of_getElem? (i := 1019) (by decide +kernel)⟩
def lw_privs_2 : List (MethodName × Nat) := [(⟨"SisterCount$Chooser", "isReached", "(III)Z"⟩, 6), (⟨"SisterCount$Chooser", "farFromDue", "(I)I"⟩, 6), (⟨"SisterCount$Chooser", "leastSetOf", "(II)I"⟩, 6), (⟨"SisterCount$Answers", "agreeing", "(III)I"⟩, 3), (⟨"SisterCount$Answers", "to", "(II)I"⟩, 3), (⟨"SisterCount$Answers", "likeOnes", "(II)I"⟩, 3), (⟨"SisterCount$Answers", "areAlike", "(III)Z"⟩, 3), (⟨"SisterCount", "loadTold", "(I)I"⟩, 12), (⟨"SisterCount", "threesOf", "(I)I"⟩, 12), (⟨"SisterCount$Joiner", "sumUp", "()V"⟩, 7), (⟨"SisterCount$Joiner", "isFirstOfGroup", "(I)Z"⟩, 7), (⟨"SisterCount$Joiner", "tellAlike", "(II)Z"⟩, 7), (⟨"SisterCount$Joiner", "partGroup", "(I)V"⟩, 7), (⟨"SisterCount$Joiner", "groupOf", "(II)I"⟩, 7), (⟨"SisterCount$Joiner", "waysFromFirst", "(IIII)I"⟩, 7), (⟨"SisterCount$Joiner", "waysWith", "(IIIIII)I"⟩, 7)]
theorem lw_r2 : ∀ q ∈ lw_privs_2, lw_okq q := List.forall_mem_cons.mpr ⟨lw_p16, List.forall_mem_cons.mpr ⟨lw_p17, List.forall_mem_cons.mpr ⟨lw_p18, List.forall_mem_cons.mpr ⟨lw_p19, List.forall_mem_cons.mpr ⟨lw_p20, List.forall_mem_cons.mpr ⟨lw_p21, List.forall_mem_cons.mpr ⟨lw_p22, List.forall_mem_cons.mpr ⟨lw_p23, List.forall_mem_cons.mpr ⟨lw_p24, List.forall_mem_cons.mpr ⟨lw_p25, List.forall_mem_cons.mpr ⟨lw_p26, List.forall_mem_cons.mpr ⟨lw_p27, List.forall_mem_cons.mpr ⟨lw_p28, List.forall_mem_cons.mpr ⟨lw_p29, List.forall_mem_cons.mpr ⟨lw_p30, List.forall_mem_cons.mpr ⟨lw_p31, fun _ h => absurd h List.not_mem_nil⟩⟩⟩⟩⟩⟩⟩⟩⟩⟩⟩⟩⟩⟩⟩⟩
theorem lw_p32 : lw_okq (⟨"SisterCount$Joiner", "addGroup", "(I)V"⟩, 7) := ⟨⟨by decide +kernel, by decide +kernel⟩, List.mem_of_getElem? (i := 229) (by decide +kernel), List.mem_of_getElem? (i := 1025) (by decide +kernel), List.mem_of_getElem? (i := 1026) (by decide +kernel)⟩
theorem lw_p33 : lw_okq (⟨"SisterCount$Joiner", "waysOfGroup", "(II)I"⟩, 7) := ⟨⟨by decide +kernel, by decide +kernel⟩, List.mem_of_getElem? (i := 229) (by decide +kernel), List.mem_of_getElem? (i := 1030) (by decide +kernel), List.mem_of_getElem? (i := 1031) (by decide +kernel)⟩
theorem lw_p34 : lw_okq (⟨"SisterCount$Joiner", "waysOfPair", "(II)I"⟩, 7) := ⟨⟨by decide +kernel, by decide +kernel⟩, List.mem_of_getElem? (i := 229) (by decide +kernel), List.mem_of_getElem? (i := 1070) (by decide +kernel), List.mem_of_getElem? (i := 1071) (by decide +kernel)⟩
theorem lw_p35 : lw_okq (⟨"SisterCount$Joiner", "waysByAnyHouses", "(I)I"⟩, 7) := ⟨⟨by decide +kernel, by decide +kernel⟩, List.mem_of_getElem? (i := 229) (by decide +kernel), List.mem_of_getElem? (i := 1074) (by decide +kernel), List.mem_of_getElem? (i := 1075) (by decide +kernel)⟩
theorem lw_p36 : lw_okq (⟨"SisterCount$Joiner", "fewestHousesOfGroup", "(I)I"⟩, 7) := ⟨⟨by decide +kernel, by decide +kernel⟩, List.mem_of_getElem? (i := 229) (by decide +kernel), List.mem_of_getElem? (i := 1086) (by decide +kernel), List.mem_of_getElem? (i := 1087) (by decide +kernel)⟩
theorem lw_p37 : lw_okq (⟨"SisterCount", "lookAtHeard", "(I)I"⟩, 12) := ⟨⟨by decide +kernel, by decide +kernel⟩, List.mem_of_getElem? (i := 21) (by decide +kernel), List.mem_of_getElem? (i := 1106) (by decide +kernel), List.mem_of_getElem? (i := 1107) (by decide +kernel)⟩
theorem lw_p38 : lw_okq (⟨"SisterCount", "wrongOf", "(LSisterCount$Row;II)I"⟩, 12) := ⟨⟨by decide +kernel, by decide +kernel⟩, List.mem_of_getElem? (i := 21) (by decide +kernel), List.mem_of_getElem? (i := 1110) (by decide +kernel), List.mem_of_getElem? (i := 1111) (by decide +kernel)⟩
theorem lw_p39 : lw_okq (⟨"SisterCount$Matcher", "findsPlace", "(III)Z"⟩, 4) := ⟨⟨by decide +kernel, by decide +kernel⟩, List.mem_of_getElem? (i := 257) (by decide +kernel), List.mem_of_getElem? (i := 1132) (by decide +kernel), List.mem_of_getElem? (i := 1133) (by decide +kernel)⟩
theorem lw_p40 : lw_okq (⟨"SisterCount$Matcher", "isOfAge", "(I)Z"⟩, 4) := ⟨⟨by decide +kernel, by decide +kernel⟩, List.mem_of_getElem? (i := 257) (by decide +kernel), List.mem_of_getElem? (i := 1140) (by decide +kernel), List.mem_of_getElem? (i := 1141) (by decide +kernel)⟩
theorem lw_p41 : lw_okq (⟨"SisterCount$Matcher", "rejoin", "(I)V"⟩, 4) := ⟨⟨by decide +kernel, by decide +kernel⟩, List.mem_of_getElem? (i := 257) (by decide +kernel), List.mem_of_getElem? (i := 1145) (by decide +kernel), List.mem_of_getElem? (i := 1146) (by decide +kernel)⟩
theorem lw_p42 : lw_okq (⟨"SisterCount$Household", "isAhead", "(III)Z"⟩, 2) := ⟨⟨by decide +kernel, by decide +kernel⟩, List.mem_of_getElem? (i := 276) (by decide +kernel), List.mem_of_getElem? (i := 1178) (by decide +kernel), List.mem_of_getElem? (i := 1179) (by decide +kernel)⟩
theorem lw_p43 : lw_okq (⟨"SisterCount$Household", "bedsFor", "(III)I"⟩, 2) := ⟨⟨by decide +kernel, by decide +kernel⟩, List.mem_of_getElem? (i := 276) (by decide +kernel), List.mem_of_getElem? (i := 1199) (by decide +kernel), List.mem_of_getElem? (i := 1200) (by decide +kernel)⟩
theorem lw_p44 : lw_okq (⟨"SisterCount$Household", "lineUp", "(II)I"⟩, 2) := ⟨⟨by decide +kernel, by decide +kernel⟩, List.mem_of_getElem? (i := 276) (by decide +kernel), List.mem_of_getElem? (i := 1203) (by decide +kernel), List.mem_of_getElem? (i := 1204) (by decide +kernel)⟩
theorem lw_p45 : lw_okq (⟨"SisterCount", "comers", "(II)I"⟩, 12) := ⟨⟨by decide +kernel, by decide +kernel⟩, List.mem_of_getElem? (i := 21) (by decide +kernel), List.mem_of_getElem? (i := 1220) (by decide +kernel), List.mem_of_getElem? (i := 1221) (by decide +kernel)⟩
theorem lw_p46 : lw_okq (⟨"SisterCount", "slotsWithRows", "()I"⟩, 12) := ⟨⟨by decide +kernel, by decide +kernel⟩, List.mem_of_getElem? (i := 21) (by decide +kernel), List.mem_of_getElem? (i := 1238) (by decide +kernel), List.mem_of_getElem? (i := 1239) (by decide +kernel)⟩
theorem lw_p47 : lw_okq (⟨"SisterCountModel", "advance", "()V"⟩, 41) := ⟨⟨by decide +kernel, by decide +kernel⟩, List.mem_of_getElem? (i := 1278) (by decide +kernel), List.mem_of_getElem? (i := 1436) (by decide +kernel), List.mem_of_getElem? (i := 1437) (by decide +kernel)⟩
def lw_privs_3 : List (MethodName × Nat) := [(⟨"SisterCount$Joiner", "addGroup", "(I)V"⟩, 7), (⟨"SisterCount$Joiner", "waysOfGroup", "(II)I"⟩, 7), (⟨"SisterCount$Joiner", "waysOfPair", "(II)I"⟩, 7), (⟨"SisterCount$Joiner", "waysByAnyHouses", "(I)I"⟩, 7), (⟨"SisterCount$Joiner", "fewestHousesOfGroup", "(I)I"⟩, 7), (⟨"SisterCount", "lookAtHeard", "(I)I"⟩, 12), (⟨"SisterCount", "wrongOf", "(LSisterCount$Row;II)I"⟩, 12), (⟨"SisterCount$Matcher", "findsPlace", "(III)Z"⟩, 4), (⟨"SisterCount$Matcher", "isOfAge", "(I)Z"⟩, 4), (⟨"SisterCount$Matcher", "rejoin", "(I)V"⟩, 4), (⟨"SisterCount$Household", "isAhead", "(III)Z"⟩, 2), (⟨"SisterCount$Household", "bedsFor", "(III)I"⟩, 2), (⟨"SisterCount$Household", "lineUp", "(II)I"⟩, 2), (⟨"SisterCount", "comers", "(II)I"⟩, 12), (⟨"SisterCount", "slotsWithRows", "()I"⟩, 12), (⟨"SisterCountModel", "advance", "()V"⟩, 41)]
theorem lw_r3 : ∀ q ∈ lw_privs_3, lw_okq q := List.forall_mem_cons.mpr ⟨lw_p32, List.forall_mem_cons.mpr ⟨lw_p33, List.forall_mem_cons.mpr ⟨lw_p34, List.forall_mem_cons.mpr ⟨lw_p35, List.forall_mem_cons.mpr ⟨lw_p36, List.forall_mem_cons.mpr ⟨lw_p37, List.forall_mem_cons.mpr ⟨lw_p38, List.forall_mem_cons.mpr ⟨lw_p39, List.forall_mem_cons.mpr ⟨lw_p40, List.forall_mem_cons.mpr ⟨lw_p41, List.forall_mem_cons.mpr ⟨lw_p42, List.forall_mem_cons.mpr ⟨lw_p43, List.forall_mem_cons.mpr ⟨lw_p44, List.forall_mem_cons.mpr ⟨lw_p45, List.forall_mem_cons.mpr ⟨lw_p46, List.forall_mem_cons.mpr ⟨lw_p47, fun _ h => absurd h List.not_mem_nil⟩⟩⟩⟩⟩⟩⟩⟩⟩⟩⟩⟩⟩⟩⟩⟩
theorem lw_p48 : lw_okq (⟨"SisterCountModel", "see", "(I)I"⟩, 41) := ⟨⟨by decide +kernel, by decide +kernel⟩, List.mem_of_getElem? (i := 1278) (by decide +kernel), List.mem_of_getElem? (i := 1440) (by decide +kernel), List.mem_of_getElem? (i := 1441) (by decide +kernel)⟩
theorem lw_p49 : lw_okq (⟨"SisterCountModel", "good", "()Z"⟩, 41) := ⟨⟨by decide +kernel, by decide +kernel⟩, List.mem_of_getElem? (i := 1278) (by decide +kernel), List.mem_of_getElem? (i := 1450) (by decide +kernel), List.mem_of_getElem? (i := 1451) (by decide +kernel)⟩
theorem lw_p50 : lw_okq (⟨"SisterCountModel", "readLine", "()V"⟩, 41) := ⟨⟨by decide +kernel, by decide +kernel⟩, List.mem_of_getElem? (i := 1278) (by decide +kernel), List.mem_of_getElem? (i := 1454) (by decide +kernel), List.mem_of_getElem? (i := 1455) (by decide +kernel)⟩
theorem lw_p51 : lw_okq (⟨"SisterCountModel", "needs", "(Ljava/lang/String;)V"⟩, 41) := ⟨⟨by decide +kernel, by decide +kernel⟩, List.mem_of_getElem? (i := 1278) (by decide +kernel), List.mem_of_getElem? (i := 1459) (by decide +kernel), List.mem_of_getElem? (i := 1460) (by decide +kernel)⟩
theorem lw_p52 : lw_okq (⟨"SisterCountModel", "takes", "(Ljava/lang/String;)Z"⟩, 41) := ⟨⟨by decide +kernel, by decide +kernel⟩, List.mem_of_getElem? (i := 1278) (by decide +kernel), List.mem_of_getElem? (i := 1463) (by decide +kernel), List.mem_of_getElem? (i := 1464) (by decide +kernel)⟩
theorem lw_p53 : lw_okq (⟨"SisterCountModel", "is", "(Ljava/lang/String;)Z"⟩, 41) := ⟨⟨by decide +kernel, by decide +kernel⟩, List.mem_of_getElem? (i := 1278) (by decide +kernel), List.mem_of_getElem? (i := 1467) (by decide +kernel), List.mem_of_getElem? (i := 1468) (by decide +kernel)⟩
theorem lw_p54 : lw_okq (⟨"SisterCountModel", "errs", "(I)V"⟩, 41) := ⟨⟨by decide +kernel, by decide +kernel⟩, List.mem_of_getElem? (i := 1278) (by decide +kernel), List.mem_of_getElem? (i := 1473) (by decide +kernel), List.mem_of_getElem? (i := 1474) (by decide +kernel)⟩
theorem lw_p55 : lw_okq (⟨"SisterCountModel", "number", "(II)I"⟩, 41) := ⟨⟨by decide +kernel, by decide +kernel⟩, List.mem_of_getElem? (i := 1278) (by decide +kernel), List.mem_of_getElem? (i := 1478) (by decide +kernel), List.mem_of_getElem? (i := 1479) (by decide +kernel)⟩
theorem lw_p56 : lw_okq (⟨"SisterCountModel", "readNext", "()V"⟩, 41) := ⟨⟨by decide +kernel, by decide +kernel⟩, List.mem_of_getElem? (i := 1278) (by decide +kernel), List.mem_of_getElem? (i := 1483) (by decide +kernel), List.mem_of_getElem? (i := 1484) (by decide +kernel)⟩
theorem lw_p57 : lw_okq (⟨"SisterCountModel", "readChild", "()V"⟩, 41) := ⟨⟨by decide +kernel, by decide +kernel⟩, List.mem_of_getElem? (i := 1278) (by decide +kernel), List.mem_of_getElem? (i := 1489) (by decide +kernel), List.mem_of_getElem? (i := 1490) (by decide +kernel)⟩
theorem lw_p58 : lw_okq (⟨"SisterCountModel", "freshOf", "(I)I"⟩, 41) := ⟨⟨by decide +kernel, by decide +kernel⟩, List.mem_of_getElem? (i := 1278) (by decide +kernel), List.mem_of_getElem? (i := 1493) (by decide +kernel), List.mem_of_getElem? (i := 1494) (by decide +kernel)⟩
theorem lw_p59 : lw_okq (⟨"SisterCountModel", "flag", "(Ljava/lang/String;)I"⟩, 41) := ⟨⟨by decide +kernel, by decide +kernel⟩, List.mem_of_getElem? (i := 1278) (by decide +kernel), List.mem_of_getElem? (i := 1498) (by decide +kernel), List.mem_of_getElem? (i := 1499) (by decide +kernel)⟩
theorem lw_p60 : lw_okq (⟨"SisterCountModel", "readAsk", "()V"⟩, 41) := ⟨⟨by decide +kernel, by decide +kernel⟩, List.mem_of_getElem? (i := 1278) (by decide +kernel), List.mem_of_getElem? (i := 1507) (by decide +kernel), List.mem_of_getElem? (i := 1508) (by decide +kernel)⟩
theorem lw_p61 : lw_okq (⟨"SisterCountModel", "isChild", "(J)Z"⟩, 41) := ⟨⟨by decide +kernel, by decide +kernel⟩, List.mem_of_getElem? (i := 1278) (by decide +kernel), List.mem_of_getElem? (i := 1522) (by decide +kernel), List.mem_of_getElem? (i := 1523) (by decide +kernel)⟩
theorem lw_p62 : lw_okq (⟨"SisterCountModel", "of", "(II)I"⟩, 41) := ⟨⟨by decide +kernel, by decide +kernel⟩, List.mem_of_getElem? (i := 1278) (by decide +kernel), List.mem_of_getElem? (i := 1527) (by decide +kernel), List.mem_of_getElem? (i := 1528) (by decide +kernel)⟩
theorem lw_p63 : lw_okq (⟨"SisterCountModel", "isHouse", "(I)Z"⟩, 41) := ⟨⟨by decide +kernel, by decide +kernel⟩, List.mem_of_getElem? (i := 1278) (by decide +kernel), List.mem_of_getElem? (i := 1535) (by decide +kernel), List.mem_of_getElem? (i := 1536) (by decide +kernel)⟩
def lw_privs_4 : List (MethodName × Nat) := [(⟨"SisterCountModel", "see", "(I)I"⟩, 41), (⟨"SisterCountModel", "good", "()Z"⟩, 41), (⟨"SisterCountModel", "readLine", "()V"⟩, 41), (⟨"SisterCountModel", "needs", "(Ljava/lang/String;)V"⟩, 41), (⟨"SisterCountModel", "takes", "(Ljava/lang/String;)Z"⟩, 41), (⟨"SisterCountModel", "is", "(Ljava/lang/String;)Z"⟩, 41), (⟨"SisterCountModel", "errs", "(I)V"⟩, 41), (⟨"SisterCountModel", "number", "(II)I"⟩, 41), (⟨"SisterCountModel", "readNext", "()V"⟩, 41), (⟨"SisterCountModel", "readChild", "()V"⟩, 41), (⟨"SisterCountModel", "freshOf", "(I)I"⟩, 41), (⟨"SisterCountModel", "flag", "(Ljava/lang/String;)I"⟩, 41), (⟨"SisterCountModel", "readAsk", "()V"⟩, 41), (⟨"SisterCountModel", "isChild", "(J)Z"⟩, 41), (⟨"SisterCountModel", "of", "(II)I"⟩, 41), (⟨"SisterCountModel", "isHouse", "(I)Z"⟩, 41)]
theorem lw_r4 : ∀ q ∈ lw_privs_4, lw_okq q := List.forall_mem_cons.mpr ⟨lw_p48, List.forall_mem_cons.mpr ⟨lw_p49, List.forall_mem_cons.mpr ⟨lw_p50, List.forall_mem_cons.mpr ⟨lw_p51, List.forall_mem_cons.mpr ⟨lw_p52, List.forall_mem_cons.mpr ⟨lw_p53, List.forall_mem_cons.mpr ⟨lw_p54, List.forall_mem_cons.mpr ⟨lw_p55, List.forall_mem_cons.mpr ⟨lw_p56, List.forall_mem_cons.mpr ⟨lw_p57, List.forall_mem_cons.mpr ⟨lw_p58, List.forall_mem_cons.mpr ⟨lw_p59, List.forall_mem_cons.mpr ⟨lw_p60, List.forall_mem_cons.mpr ⟨lw_p61, List.forall_mem_cons.mpr ⟨lw_p62, List.forall_mem_cons.mpr ⟨lw_p63, fun _ h => absurd h List.not_mem_nil⟩⟩⟩⟩⟩⟩⟩⟩⟩⟩⟩⟩⟩⟩⟩⟩
theorem lw_p64 : lw_okq (⟨"SisterCountModel", "manyOf", "(II)I"⟩, 41) := ⟨⟨by decide +kernel, by decide +kernel⟩, List.mem_of_getElem? (i := 1278) (by decide +kernel), List.mem_of_getElem? (i := 1540) (by decide +kernel), List.mem_of_getElem? (i := 1541) (by decide +kernel)⟩
theorem lw_p65 : lw_okq (⟨"SisterCountModel", "isOf", "(II)Z"⟩, 41) := ⟨⟨by decide +kernel, by decide +kernel⟩, List.mem_of_getElem? (i := 1278) (by decide +kernel), List.mem_of_getElem? (i := 1544) (by decide +kernel), List.mem_of_getElem? (i := 1545) (by decide +kernel)⟩
theorem lw_p66 : lw_okq (⟨"SisterCountModel", "scholarsOf", "(I)I"⟩, 41) := ⟨⟨by decide +kernel, by decide +kernel⟩, List.mem_of_getElem? (i := 1278) (by decide +kernel), List.mem_of_getElem? (i := 1548) (by decide +kernel), List.mem_of_getElem? (i := 1549) (by decide +kernel)⟩
theorem lw_p67 : lw_okq (⟨"SisterCountModel", "isScholar", "(I)Z"⟩, 41) := ⟨⟨by decide +kernel, by decide +kernel⟩, List.mem_of_getElem? (i := 1278) (by decide +kernel), List.mem_of_getElem? (i := 1552) (by decide +kernel), List.mem_of_getElem? (i := 1553) (by decide +kernel)⟩
theorem lw_p68 : lw_okq (⟨"SisterCountModel", "isScholarIn", "(II)Z"⟩, 41) := ⟨⟨by decide +kernel, by decide +kernel⟩, List.mem_of_getElem? (i := 1278) (by decide +kernel), List.mem_of_getElem? (i := 1556) (by decide +kernel), List.mem_of_getElem? (i := 1557) (by decide +kernel)⟩
theorem lw_p69 : lw_okq (⟨"SisterCountModel", "isTown", "()Z"⟩, 41) := ⟨⟨by decide +kernel, by decide +kernel⟩, List.mem_of_getElem? (i := 1278) (by decide +kernel), List.mem_of_getElem? (i := 1564) (by decide +kernel), List.mem_of_getElem? (i := 1565) (by decide +kernel)⟩
theorem lw_p70 : lw_okq (⟨"SisterCountModel", "scholarsNow", "()I"⟩, 41) := ⟨⟨by decide +kernel, by decide +kernel⟩, List.mem_of_getElem? (i := 1278) (by decide +kernel), List.mem_of_getElem? (i := 1568) (by decide +kernel), List.mem_of_getElem? (i := 1569) (by decide +kernel)⟩
theorem lw_p71 : lw_okq (⟨"SisterCountModel", "isAsk", "(J)Z"⟩, 41) := ⟨⟨by decide +kernel, by decide +kernel⟩, List.mem_of_getElem? (i := 1278) (by decide +kernel), List.mem_of_getElem? (i := 1576) (by decide +kernel), List.mem_of_getElem? (i := 1577) (by decide +kernel)⟩
theorem lw_p72 : lw_okq (⟨"SisterCountModel", "truthOf", "(II)I"⟩, 41) := ⟨⟨by decide +kernel, by decide +kernel⟩, List.mem_of_getElem? (i := 1278) (by decide +kernel), List.mem_of_getElem? (i := 1580) (by decide +kernel), List.mem_of_getElem? (i := 1581) (by decide +kernel)⟩
theorem lw_p73 : lw_okq (⟨"SisterCountModel", "countsFor", "(III)I"⟩, 41) := ⟨⟨by decide +kernel, by decide +kernel⟩, List.mem_of_getElem? (i := 1278) (by decide +kernel), List.mem_of_getElem? (i := 1584) (by decide +kernel), List.mem_of_getElem? (i := 1585) (by decide +kernel)⟩
theorem lw_p74 : lw_okq (⟨"SisterCountModel", "ofAsk", "(II)I"⟩, 41) := ⟨⟨by decide +kernel, by decide +kernel⟩, List.mem_of_getElem? (i := 1278) (by decide +kernel), List.mem_of_getElem? (i := 1588) (by decide +kernel), List.mem_of_getElem? (i := 1589) (by decide +kernel)⟩
theorem lw_p75 : lw_okq (⟨"SisterCountModel", "counts", "(IIIIIII)I"⟩, 41) := ⟨⟨by decide +kernel, by decide +kernel⟩, List.mem_of_getElem? (i := 1278) (by decide +kernel), List.mem_of_getElem? (i := 1592) (by decide +kernel), List.mem_of_getElem? (i := 1593) (by decide +kernel)⟩
theorem lw_p76 : lw_okq (⟨"SisterCountModel", "answerOf", "(II)I"⟩, 41) := ⟨⟨by decide +kernel, by decide +kernel⟩, List.mem_of_getElem? (i := 1278) (by decide +kernel), List.mem_of_getElem? (i := 1600) (by decide +kernel), List.mem_of_getElem? (i := 1601) (by decide +kernel)⟩
theorem lw_p77 : lw_okq (⟨"SisterCountModel", "taleOf", "(II)I"⟩, 41) := ⟨⟨by decide +kernel, by decide +kernel⟩, List.mem_of_getElem? (i := 1278) (by decide +kernel), List.mem_of_getElem? (i := 1611) (by decide +kernel), List.mem_of_getElem? (i := 1612) (by decide +kernel)⟩
theorem lw_p78 : lw_okq (⟨"SisterCountModel", "areOf", "(I)I"⟩, 41) := ⟨⟨by decide +kernel, by decide +kernel⟩, List.mem_of_getElem? (i := 1278) (by decide +kernel), List.mem_of_getElem? (i := 1619) (by decide +kernel), List.mem_of_getElem? (i := 1620) (by decide +kernel)⟩
theorem lw_p79 : lw_okq (⟨"SisterCountModel", "isSeenIn", "(II)Z"⟩, 41) := ⟨⟨by decide +kernel, by decide +kernel⟩, List.mem_of_getElem? (i := 1278) (by decide +kernel), List.mem_of_getElem? (i := 1656) (by decide +kernel), List.mem_of_getElem? (i := 1657) (by decide +kernel)⟩
def lw_privs_5 : List (MethodName × Nat) := [(⟨"SisterCountModel", "manyOf", "(II)I"⟩, 41), (⟨"SisterCountModel", "isOf", "(II)Z"⟩, 41), (⟨"SisterCountModel", "scholarsOf", "(I)I"⟩, 41), (⟨"SisterCountModel", "isScholar", "(I)Z"⟩, 41), (⟨"SisterCountModel", "isScholarIn", "(II)Z"⟩, 41), (⟨"SisterCountModel", "isTown", "()Z"⟩, 41), (⟨"SisterCountModel", "scholarsNow", "()I"⟩, 41), (⟨"SisterCountModel", "isAsk", "(J)Z"⟩, 41), (⟨"SisterCountModel", "truthOf", "(II)I"⟩, 41), (⟨"SisterCountModel", "countsFor", "(III)I"⟩, 41), (⟨"SisterCountModel", "ofAsk", "(II)I"⟩, 41), (⟨"SisterCountModel", "counts", "(IIIIIII)I"⟩, 41), (⟨"SisterCountModel", "answerOf", "(II)I"⟩, 41), (⟨"SisterCountModel", "taleOf", "(II)I"⟩, 41), (⟨"SisterCountModel", "areOf", "(I)I"⟩, 41), (⟨"SisterCountModel", "isSeenIn", "(II)Z"⟩, 41)]
theorem lw_r5 : ∀ q ∈ lw_privs_5, lw_okq q := List.forall_mem_cons.mpr ⟨lw_p64, List.forall_mem_cons.mpr ⟨lw_p65, List.forall_mem_cons.mpr ⟨lw_p66, List.forall_mem_cons.mpr ⟨lw_p67, List.forall_mem_cons.mpr ⟨lw_p68, List.forall_mem_cons.mpr ⟨lw_p69, List.forall_mem_cons.mpr ⟨lw_p70, List.forall_mem_cons.mpr ⟨lw_p71, List.forall_mem_cons.mpr ⟨lw_p72, List.forall_mem_cons.mpr ⟨lw_p73, List.forall_mem_cons.mpr ⟨lw_p74, List.forall_mem_cons.mpr ⟨lw_p75, List.forall_mem_cons.mpr ⟨lw_p76, List.forall_mem_cons.mpr ⟨lw_p77, List.forall_mem_cons.mpr ⟨lw_p78, List.forall_mem_cons.mpr ⟨lw_p79, fun _ h => absurd h List.not_mem_nil⟩⟩⟩⟩⟩⟩⟩⟩⟩⟩⟩⟩⟩⟩⟩⟩
theorem lw_p80 : lw_okq (⟨"SisterCountModel", "slipsOf", "(I)I"⟩, 41) := ⟨⟨by decide +kernel, by decide +kernel⟩, List.mem_of_getElem? (i := 1278) (by decide +kernel), List.mem_of_getElem? (i := 1673) (by decide +kernel), List.mem_of_getElem? (i := 1674) (by decide +kernel)⟩
theorem lw_p81 : lw_okq (⟨"SisterCountModel", "isFirstSo", "(II)Z"⟩, 41) := ⟨⟨by decide +kernel, by decide +kernel⟩, List.mem_of_getElem? (i := 1278) (by decide +kernel), List.mem_of_getElem? (i := 1681) (by decide +kernel), List.mem_of_getElem? (i := 1682) (by decide +kernel)⟩
theorem lw_p82 : lw_okq (⟨"SisterCountModel", "crowdOf", "(I)I"⟩, 41) := ⟨⟨by decide +kernel, by decide +kernel⟩, List.mem_of_getElem? (i := 1278) (by decide +kernel), List.mem_of_getElem? (i := 1689) (by decide +kernel), List.mem_of_getElem? (i := 1690) (by decide +kernel)⟩
theorem lw_p83 : lw_okq (⟨"SisterCountModel", "likeIt", "(II)I"⟩, 41) := ⟨⟨by decide +kernel, by decide +kernel⟩, List.mem_of_getElem? (i := 1278) (by decide +kernel), List.mem_of_getElem? (i := 1693) (by decide +kernel), List.mem_of_getElem? (i := 1694) (by decide +kernel)⟩
theorem lw_p84 : lw_okq (⟨"SisterCountModel", "allAsks", "()I"⟩, 41) := ⟨⟨by decide +kernel, by decide +kernel⟩, List.mem_of_getElem? (i := 1278) (by decide +kernel), List.mem_of_getElem? (i := 1706) (by decide +kernel), List.mem_of_getElem? (i := 1707) (by decide +kernel)⟩
theorem lw_p85 : lw_okq (⟨"SisterCountModel", "layAnswers", "()V"⟩, 41) := ⟨⟨by decide +kernel, by decide +kernel⟩, List.mem_of_getElem? (i := 1278) (by decide +kernel), List.mem_of_getElem? (i := 1710) (by decide +kernel), List.mem_of_getElem? (i := 1711) (by decide +kernel)⟩
theorem lw_p86 : lw_okq (⟨"SisterCountModel", "toldBy", "(I)I"⟩, 41) := ⟨⟨by decide +kernel, by decide +kernel⟩, List.mem_of_getElem? (i := 1278) (by decide +kernel), List.mem_of_getElem? (i := 1714) (by decide +kernel), List.mem_of_getElem? (i := 1715) (by decide +kernel)⟩
theorem lw_p87 : lw_okq (⟨"SisterCountModel", "areAlike", "(III)Z"⟩, 41) := ⟨⟨by decide +kernel, by decide +kernel⟩, List.mem_of_getElem? (i := 1278) (by decide +kernel), List.mem_of_getElem? (i := 1718) (by decide +kernel), List.mem_of_getElem? (i := 1719) (by decide +kernel)⟩
theorem lw_p88 : lw_okq (⟨"SisterCountModel", "toldOf", "(IZ)I"⟩, 41) := ⟨⟨by decide +kernel, by decide +kernel⟩, List.mem_of_getElem? (i := 1278) (by decide +kernel), List.mem_of_getElem? (i := 1738) (by decide +kernel), List.mem_of_getElem? (i := 1739) (by decide +kernel)⟩
theorem lw_p89 : lw_okq (⟨"SisterCountModel", "asksTold", "(IZ)I"⟩, 41) := ⟨⟨by decide +kernel, by decide +kernel⟩, List.mem_of_getElem? (i := 1278) (by decide +kernel), List.mem_of_getElem? (i := 1742) (by decide +kernel), List.mem_of_getElem? (i := 1743) (by decide +kernel)⟩
theorem lw_p90 : lw_okq (⟨"SisterCountModel", "numberAt", "(II)J"⟩, 41) := ⟨⟨by decide +kernel, by decide +kernel⟩, List.mem_of_getElem? (i := 1278) (by decide +kernel), List.mem_of_getElem? (i := 1750) (by decide +kernel), List.mem_of_getElem? (i := 1751) (by decide +kernel)⟩
theorem lw_p91 : lw_okq (⟨"SisterCountModel", "countJoinings", "()V"⟩, 41) := ⟨⟨by decide +kernel, by decide +kernel⟩, List.mem_of_getElem? (i := 1278) (by decide +kernel), List.mem_of_getElem? (i := 1755) (by decide +kernel), List.mem_of_getElem? (i := 1756) (by decide +kernel)⟩
theorem lw_p92 : lw_okq (⟨"SisterCountModel", "mayBeOne", "(I)Z"⟩, 41) := ⟨⟨by decide +kernel, by decide +kernel⟩, List.mem_of_getElem? (i := 1278) (by decide +kernel), List.mem_of_getElem? (i := 1759) (by decide +kernel), List.mem_of_getElem? (i := 1760) (by decide +kernel)⟩
theorem lw_p93 : lw_okq (⟨"SisterCountModel", "adds", "(III)V"⟩, 41) := ⟨⟨by decide +kernel, by decide +kernel⟩, List.mem_of_getElem? (i := 1278) (by decide +kernel), List.mem_of_getElem? (i := 1763) (by decide +kernel), List.mem_of_getElem? (i := 1764) (by decide +kernel)⟩
theorem lw_p94 : lw_okq (⟨"SisterCountModel", "waysOf", "(I)I"⟩, 41) := ⟨⟨by decide +kernel, by decide +kernel⟩, List.mem_of_getElem? (i := 1278) (by decide +kernel), List.mem_of_getElem? (i := 1767) (by decide +kernel), List.mem_of_getElem? (i := 1768) (by decide +kernel)⟩
theorem lw_p95 : lw_okq (⟨"SisterCountModel", "allWays", "()I"⟩, 41) := ⟨⟨by decide +kernel, by decide +kernel⟩, List.mem_of_getElem? (i := 1278) (by decide +kernel), List.mem_of_getElem? (i := 1779) (by decide +kernel), List.mem_of_getElem? (i := 1780) (by decide +kernel)⟩
def lw_privs_6 : List (MethodName × Nat) := [(⟨"SisterCountModel", "slipsOf", "(I)I"⟩, 41), (⟨"SisterCountModel", "isFirstSo", "(II)Z"⟩, 41), (⟨"SisterCountModel", "crowdOf", "(I)I"⟩, 41), (⟨"SisterCountModel", "likeIt", "(II)I"⟩, 41), (⟨"SisterCountModel", "allAsks", "()I"⟩, 41), (⟨"SisterCountModel", "layAnswers", "()V"⟩, 41), (⟨"SisterCountModel", "toldBy", "(I)I"⟩, 41), (⟨"SisterCountModel", "areAlike", "(III)Z"⟩, 41), (⟨"SisterCountModel", "toldOf", "(IZ)I"⟩, 41), (⟨"SisterCountModel", "asksTold", "(IZ)I"⟩, 41), (⟨"SisterCountModel", "numberAt", "(II)J"⟩, 41), (⟨"SisterCountModel", "countJoinings", "()V"⟩, 41), (⟨"SisterCountModel", "mayBeOne", "(I)Z"⟩, 41), (⟨"SisterCountModel", "adds", "(III)V"⟩, 41), (⟨"SisterCountModel", "waysOf", "(I)I"⟩, 41), (⟨"SisterCountModel", "allWays", "()I"⟩, 41)]
theorem lw_r6 : ∀ q ∈ lw_privs_6, lw_okq q := List.forall_mem_cons.mpr ⟨lw_p80, List.forall_mem_cons.mpr ⟨lw_p81, List.forall_mem_cons.mpr ⟨lw_p82, List.forall_mem_cons.mpr ⟨lw_p83, List.forall_mem_cons.mpr ⟨lw_p84, List.forall_mem_cons.mpr ⟨lw_p85, List.forall_mem_cons.mpr ⟨lw_p86, List.forall_mem_cons.mpr ⟨lw_p87, List.forall_mem_cons.mpr ⟨lw_p88, List.forall_mem_cons.mpr ⟨lw_p89, List.forall_mem_cons.mpr ⟨lw_p90, List.forall_mem_cons.mpr ⟨lw_p91, List.forall_mem_cons.mpr ⟨lw_p92, List.forall_mem_cons.mpr ⟨lw_p93, List.forall_mem_cons.mpr ⟨lw_p94, List.forall_mem_cons.mpr ⟨lw_p95, fun _ h => absurd h List.not_mem_nil⟩⟩⟩⟩⟩⟩⟩⟩⟩⟩⟩⟩⟩⟩⟩⟩
theorem lw_p96 : lw_okq (⟨"SisterCountModel", "asksHeard", "(I)I"⟩, 41) := ⟨⟨by decide +kernel, by decide +kernel⟩, List.mem_of_getElem? (i := 1278) (by decide +kernel), List.mem_of_getElem? (i := 1808) (by decide +kernel), List.mem_of_getElem? (i := 1809) (by decide +kernel)⟩
theorem lw_p97 : lw_okq (⟨"SisterCountModel", "falseOf", "(II)I"⟩, 41) := ⟨⟨by decide +kernel, by decide +kernel⟩, List.mem_of_getElem? (i := 1278) (by decide +kernel), List.mem_of_getElem? (i := 1812) (by decide +kernel), List.mem_of_getElem? (i := 1813) (by decide +kernel)⟩
theorem lw_p98 : lw_okq (⟨"SisterCountModel", "isFalse", "(II)Z"⟩, 41) := ⟨⟨by decide +kernel, by decide +kernel⟩, List.mem_of_getElem? (i := 1278) (by decide +kernel), List.mem_of_getElem? (i := 1816) (by decide +kernel), List.mem_of_getElem? (i := 1817) (by decide +kernel)⟩
theorem lw_p99 : lw_okq (⟨"SisterCountModel", "mostMarriages", "(IIII)I"⟩, 41) := ⟨⟨by decide +kernel, by decide +kernel⟩, List.mem_of_getElem? (i := 1278) (by decide +kernel), List.mem_of_getElem? (i := 1840) (by decide +kernel), List.mem_of_getElem? (i := 1841) (by decide +kernel)⟩
theorem lw_p100 : lw_okq (⟨"SisterCountModel", "findsOne", "(I)Z"⟩, 41) := ⟨⟨by decide +kernel, by decide +kernel⟩, List.mem_of_getElem? (i := 1278) (by decide +kernel), List.mem_of_getElem? (i := 1844) (by decide +kernel), List.mem_of_getElem? (i := 1845) (by decide +kernel)⟩
theorem lw_p101 : lw_okq (⟨"SisterCountModel", "areMatched", "(II)Z"⟩, 41) := ⟨⟨by decide +kernel, by decide +kernel⟩, List.mem_of_getElem? (i := 1278) (by decide +kernel), List.mem_of_getElem? (i := 1848) (by decide +kernel), List.mem_of_getElem? (i := 1849) (by decide +kernel)⟩
theorem lw_p102 : lw_okq (⟨"SisterCountModel", "mayMarry", "(I)Z"⟩, 41) := ⟨⟨by decide +kernel, by decide +kernel⟩, List.mem_of_getElem? (i := 1278) (by decide +kernel), List.mem_of_getElem? (i := 1852) (by decide +kernel), List.mem_of_getElem? (i := 1853) (by decide +kernel)⟩
theorem lw_p103 : lw_okq (⟨"SisterCountModel", "leads", "(I)V"⟩, 41) := ⟨⟨by decide +kernel, by decide +kernel⟩, List.mem_of_getElem? (i := 1278) (by decide +kernel), List.mem_of_getElem? (i := 1857) (by decide +kernel), List.mem_of_getElem? (i := 1858) (by decide +kernel)⟩
theorem lw_p104 : lw_okq (⟨"SisterCountModel", "isLaw", "(I)Z"⟩, 41) := ⟨⟨by decide +kernel, by decide +kernel⟩, List.mem_of_getElem? (i := 1278) (by decide +kernel), List.mem_of_getElem? (i := 1877) (by decide +kernel), List.mem_of_getElem? (i := 1878) (by decide +kernel)⟩
theorem lw_p105 : lw_okq (⟨"SisterCountModel", "heirOf", "(III)I"⟩, 41) := ⟨⟨by decide +kernel, by decide +kernel⟩, List.mem_of_getElem? (i := 1278) (by decide +kernel), List.mem_of_getElem? (i := 1881) (by decide +kernel), List.mem_of_getElem? (i := 1882) (by decide +kernel)⟩
theorem lw_p106 : lw_okq (⟨"SisterCountModel", "placeOf", "(II)I"⟩, 41) := ⟨⟨by decide +kernel, by decide +kernel⟩, List.mem_of_getElem? (i := 1278) (by decide +kernel), List.mem_of_getElem? (i := 1885) (by decide +kernel), List.mem_of_getElem? (i := 1886) (by decide +kernel)⟩
theorem lw_p107 : lw_okq (⟨"SisterCountModel", "inheritsAhead", "(III)Z"⟩, 41) := ⟨⟨by decide +kernel, by decide +kernel⟩, List.mem_of_getElem? (i := 1278) (by decide +kernel), List.mem_of_getElem? (i := 1889) (by decide +kernel), List.mem_of_getElem? (i := 1890) (by decide +kernel)⟩
theorem lw_p108 : lw_okq (⟨"SisterCountModel", "allBeds", "(II)I"⟩, 41) := ⟨⟨by decide +kernel, by decide +kernel⟩, List.mem_of_getElem? (i := 1278) (by decide +kernel), List.mem_of_getElem? (i := 1905) (by decide +kernel), List.mem_of_getElem? (i := 1906) (by decide +kernel)⟩
theorem lw_p109 : lw_okq (⟨"SisterCountModel", "bedsOf", "(III)I"⟩, 41) := ⟨⟨by decide +kernel, by decide +kernel⟩, List.mem_of_getElem? (i := 1278) (by decide +kernel), List.mem_of_getElem? (i := 1909) (by decide +kernel), List.mem_of_getElem? (i := 1910) (by decide +kernel)⟩
theorem lw_p110 : lw_okq (⟨"SisterCountModel", "toldOfHouse", "(II)I"⟩, 41) := ⟨⟨by decide +kernel, by decide +kernel⟩, List.mem_of_getElem? (i := 1278) (by decide +kernel), List.mem_of_getElem? (i := 1921) (by decide +kernel), List.mem_of_getElem? (i := 1922) (by decide +kernel)⟩
theorem lw_p111 : lw_okq (⟨"SisterCountModel", "isOfAge", "(III)Z"⟩, 41) := ⟨⟨by decide +kernel, by decide +kernel⟩, List.mem_of_getElem? (i := 1278) (by decide +kernel), List.mem_of_getElem? (i := 1941) (by decide +kernel), List.mem_of_getElem? (i := 1942) (by decide +kernel)⟩
def lw_privs_7 : List (MethodName × Nat) := [(⟨"SisterCountModel", "asksHeard", "(I)I"⟩, 41), (⟨"SisterCountModel", "falseOf", "(II)I"⟩, 41), (⟨"SisterCountModel", "isFalse", "(II)Z"⟩, 41), (⟨"SisterCountModel", "mostMarriages", "(IIII)I"⟩, 41), (⟨"SisterCountModel", "findsOne", "(I)Z"⟩, 41), (⟨"SisterCountModel", "areMatched", "(II)Z"⟩, 41), (⟨"SisterCountModel", "mayMarry", "(I)Z"⟩, 41), (⟨"SisterCountModel", "leads", "(I)V"⟩, 41), (⟨"SisterCountModel", "isLaw", "(I)Z"⟩, 41), (⟨"SisterCountModel", "heirOf", "(III)I"⟩, 41), (⟨"SisterCountModel", "placeOf", "(II)I"⟩, 41), (⟨"SisterCountModel", "inheritsAhead", "(III)Z"⟩, 41), (⟨"SisterCountModel", "allBeds", "(II)I"⟩, 41), (⟨"SisterCountModel", "bedsOf", "(III)I"⟩, 41), (⟨"SisterCountModel", "toldOfHouse", "(II)I"⟩, 41), (⟨"SisterCountModel", "isOfAge", "(III)Z"⟩, 41)]
theorem lw_r7 : ∀ q ∈ lw_privs_7, lw_okq q := List.forall_mem_cons.mpr ⟨lw_p96, List.forall_mem_cons.mpr ⟨lw_p97, List.forall_mem_cons.mpr ⟨lw_p98, List.forall_mem_cons.mpr ⟨lw_p99, List.forall_mem_cons.mpr ⟨lw_p100, List.forall_mem_cons.mpr ⟨lw_p101, List.forall_mem_cons.mpr ⟨lw_p102, List.forall_mem_cons.mpr ⟨lw_p103, List.forall_mem_cons.mpr ⟨lw_p104, List.forall_mem_cons.mpr ⟨lw_p105, List.forall_mem_cons.mpr ⟨lw_p106, List.forall_mem_cons.mpr ⟨lw_p107, List.forall_mem_cons.mpr ⟨lw_p108, List.forall_mem_cons.mpr ⟨lw_p109, List.forall_mem_cons.mpr ⟨lw_p110, List.forall_mem_cons.mpr ⟨lw_p111, fun _ h => absurd h List.not_mem_nil⟩⟩⟩⟩⟩⟩⟩⟩⟩⟩⟩⟩⟩⟩⟩⟩
theorem lw_p112 : lw_okq (⟨"SisterCountModel", "fillPanels", "(I)V"⟩, 41) := ⟨⟨by decide +kernel, by decide +kernel⟩, List.mem_of_getElem? (i := 1278) (by decide +kernel), List.mem_of_getElem? (i := 1986) (by decide +kernel), List.mem_of_getElem? (i := 1987) (by decide +kernel)⟩
theorem lw_p113 : lw_okq (⟨"SisterCountModel", "tells", "(II)I"⟩, 41) := ⟨⟨by decide +kernel, by decide +kernel⟩, List.mem_of_getElem? (i := 1278) (by decide +kernel), List.mem_of_getElem? (i := 1991) (by decide +kernel), List.mem_of_getElem? (i := 1992) (by decide +kernel)⟩
theorem lw_p114 : lw_okq (⟨"SisterCountModel", "trade", "(II)V"⟩, 41) := ⟨⟨by decide +kernel, by decide +kernel⟩, List.mem_of_getElem? (i := 1278) (by decide +kernel), List.mem_of_getElem? (i := 2008) (by decide +kernel), List.mem_of_getElem? (i := 2009) (by decide +kernel)⟩
theorem lw_p115 : lw_okq (⟨"SisterCountModel", "isDrawn", "(II)Z"⟩, 41) := ⟨⟨by decide +kernel, by decide +kernel⟩, List.mem_of_getElem? (i := 1278) (by decide +kernel), List.mem_of_getElem? (i := 2016) (by decide +kernel), List.mem_of_getElem? (i := 2017) (by decide +kernel)⟩
theorem lw_p116 : lw_okq (⟨"SisterCountModel", "comers", "(JI)I"⟩, 41) := ⟨⟨by decide +kernel, by decide +kernel⟩, List.mem_of_getElem? (i := 1278) (by decide +kernel), List.mem_of_getElem? (i := 2022) (by decide +kernel), List.mem_of_getElem? (i := 2023) (by decide +kernel)⟩
theorem lw_p117 : lw_okq (⟨"SisterCountModel", "draw", "()I"⟩, 41) := ⟨⟨by decide +kernel, by decide +kernel⟩, List.mem_of_getElem? (i := 1278) (by decide +kernel), List.mem_of_getElem? (i := 2026) (by decide +kernel), List.mem_of_getElem? (i := 2027) (by decide +kernel)⟩
theorem lw_p118 : lw_okq (⟨"SisterCountModel", "housesOf", "(I)I"⟩, 41) := ⟨⟨by decide +kernel, by decide +kernel⟩, List.mem_of_getElem? (i := 1278) (by decide +kernel), List.mem_of_getElem? (i := 2034) (by decide +kernel), List.mem_of_getElem? (i := 2035) (by decide +kernel)⟩
def lw_privs_8 : List (MethodName × Nat) := [(⟨"SisterCountModel", "fillPanels", "(I)V"⟩, 41), (⟨"SisterCountModel", "tells", "(II)I"⟩, 41), (⟨"SisterCountModel", "trade", "(II)V"⟩, 41), (⟨"SisterCountModel", "isDrawn", "(II)Z"⟩, 41), (⟨"SisterCountModel", "comers", "(JI)I"⟩, 41), (⟨"SisterCountModel", "draw", "()I"⟩, 41), (⟨"SisterCountModel", "housesOf", "(I)I"⟩, 41)]
theorem lw_r8 : ∀ q ∈ lw_privs_8, lw_okq q := List.forall_mem_cons.mpr ⟨lw_p112, List.forall_mem_cons.mpr ⟨lw_p113, List.forall_mem_cons.mpr ⟨lw_p114, List.forall_mem_cons.mpr ⟨lw_p115, List.forall_mem_cons.mpr ⟨lw_p116, List.forall_mem_cons.mpr ⟨lw_p117, List.forall_mem_cons.mpr ⟨lw_p118, fun _ h => absurd h List.not_mem_nil⟩⟩⟩⟩⟩⟩⟩
def lw_privs : List (MethodName × Nat) := lw_privs_1 ++ (lw_privs_2 ++ (lw_privs_3 ++ (lw_privs_4 ++ (lw_privs_5 ++ (lw_privs_6 ++ (lw_privs_7 ++ (lw_privs_8)))))))
def lw_tbl : List Cond := k2_sels lw_privs ++ tables_1
theorem lw_privs_ok : ∀ q ∈ lw_privs, lw_okq q := by
  show ∀ q ∈ lw_privs_1 ++ (lw_privs_2 ++ (lw_privs_3 ++ (lw_privs_4 ++ (lw_privs_5 ++ (lw_privs_6 ++ (lw_privs_7 ++ (lw_privs_8))))))), lw_okq q
  exact List.forall_mem_append.mpr ⟨lw_r1, List.forall_mem_append.mpr ⟨lw_r2, List.forall_mem_append.mpr ⟨lw_r3, List.forall_mem_append.mpr ⟨lw_r4, List.forall_mem_append.mpr ⟨lw_r5, List.forall_mem_append.mpr ⟨lw_r6, List.forall_mem_append.mpr ⟨lw_r7, lw_r8⟩⟩⟩⟩⟩⟩⟩
end
section
def RX0 : String := "SisterCount$Answers"
def TX0 : u_T := fun k => match k with
  | 0 => ("SisterCount$Answers", "town", "LSisterCount$Town;", true)
  | 1 => ("SisterCount$Answers", "said", "[I", true)
  | _ => ("SisterCount$Answers", "asked", "I", false)
def tyX0 : Nat → FieldType := fun k => match k with
  | 0 => .object "SisterCount$Town"
  | 1 => .array .int
  | _ => .int
theorem nmX0 : ∀ a, a < 3 → ∀ b, b < 3 → a ≠ b → (TX0 a).2.1 ≠ (TX0 b).2.1 := by decide +kernel
theorem tyX0_ok : ∀ k, k < 3 → parseFieldDescriptor (TX0 k).2.2.1 = some (tyX0 k) := by decide +kernel
def RX1 : String := "SisterCount$Chooser"
def TX1 : u_T := fun k => match k with
  | 0 => ("SisterCount$Chooser", "town", "LSisterCount$Town;", true)
  | 1 => ("SisterCount$Chooser", "who", "[I", true)
  | 2 => ("SisterCount$Chooser", "voices", "[I", true)
  | 3 => ("SisterCount$Chooser", "reached", "[I", true)
  | 4 => ("SisterCount$Chooser", "due", "I", false)
  | _ => ("SisterCount$Chooser", "size", "I", false)
def tyX1 : Nat → FieldType := fun k => match k with
  | 0 => .object "SisterCount$Town"
  | 1 => .array .int
  | 2 => .array .int
  | 3 => .array .int
  | 4 => .int
  | _ => .int
theorem nmX1 : ∀ a, a < 6 → ∀ b, b < 6 → a ≠ b → (TX1 a).2.1 ≠ (TX1 b).2.1 := by decide +kernel
theorem tyX1_ok : ∀ k, k < 6 → parseFieldDescriptor (TX1 k).2.2.1 = some (tyX1 k) := by decide +kernel
def RX2 : String := "SisterCount$Household"
def TX2 : u_T := fun k => match k with
  | 0 => ("SisterCount$Household", "town", "LSisterCount$Town;", true)
  | _ => ("SisterCount$Household", "sleepers", "[I", true)
def tyX2 : Nat → FieldType := fun k => match k with
  | 0 => .object "SisterCount$Town"
  | _ => .array .int
theorem nmX2 : ∀ a, a < 2 → ∀ b, b < 2 → a ≠ b → (TX2 a).2.1 ≠ (TX2 b).2.1 := by decide +kernel
theorem tyX2_ok : ∀ k, k < 2 → parseFieldDescriptor (TX2 k).2.2.1 = some (tyX2 k) := by decide +kernel
def RX3 : String := "SisterCount$Joiner"
def TX3 : u_T := fun k => match k with
  | 0 => ("SisterCount$Joiner", "sexes", "[I", true)
  | 1 => ("SisterCount$Joiner", "girls", "[I", true)
  | 2 => ("SisterCount$Joiner", "boys", "[I", true)
  | 3 => ("SisterCount$Joiner", "ways", "[I", true)
  | 4 => ("SisterCount$Joiner", "sums", "[I", true)
  | 5 => ("SisterCount$Joiner", "former", "[I", true)
  | _ => ("SisterCount$Joiner", "size", "I", false)
def tyX3 : Nat → FieldType := fun k => match k with
  | 0 => .array .int
  | 1 => .array .int
  | 2 => .array .int
  | 3 => .array .int
  | 4 => .array .int
  | 5 => .array .int
  | _ => .int
theorem nmX3 : ∀ a, a < 7 → ∀ b, b < 7 → a ≠ b → (TX3 a).2.1 ≠ (TX3 b).2.1 := by decide +kernel
theorem tyX3_ok : ∀ k, k < 7 → parseFieldDescriptor (TX3 k).2.2.1 = some (tyX3 k) := by decide +kernel
def RX4 : String := "SisterCount$Matcher"
def TX4 : u_T := fun k => match k with
  | 0 => ("SisterCount$Matcher", "town", "LSisterCount$Town;", true)
  | 1 => ("SisterCount$Matcher", "mates", "[I", true)
  | 2 => ("SisterCount$Matcher", "reachedFrom", "[I", true)
  | _ => ("SisterCount$Matcher", "queue", "[I", true)
def tyX4 : Nat → FieldType := fun k => match k with
  | 0 => .object "SisterCount$Town"
  | 1 => .array .int
  | 2 => .array .int
  | _ => .array .int
theorem nmX4 : ∀ a, a < 4 → ∀ b, b < 4 → a ≠ b → (TX4 a).2.1 ≠ (TX4 b).2.1 := by decide +kernel
theorem tyX4_ok : ∀ k, k < 4 → parseFieldDescriptor (TX4 k).2.2.1 = some (tyX4 k) := by decide +kernel
def RX5 : String := "SisterCount$Reader"
def TX5 : u_T := fun k => match k with
  | 0 => ("SisterCount$Reader", "tape", "LSisterCount$Tape;", true)
  | 1 => ("SisterCount$Reader", "at", "I", false)
  | 2 => ("SisterCount$Reader", "start", "I", false)
  | 3 => ("SisterCount$Reader", "kind", "I", false)
  | 4 => ("SisterCount$Reader", "number", "I", false)
  | 5 => ("SisterCount$Reader", "fault", "I", false)
  | _ => ("SisterCount$Reader", "faultPlace", "I", false)
def tyX5 : Nat → FieldType := fun k => match k with
  | 0 => .object "SisterCount$Tape"
  | 1 => .int
  | 2 => .int
  | 3 => .int
  | 4 => .int
  | 5 => .int
  | _ => .int
theorem nmX5 : ∀ a, a < 7 → ∀ b, b < 7 → a ≠ b → (TX5 a).2.1 ≠ (TX5 b).2.1 := by decide +kernel
theorem tyX5_ok : ∀ k, k < 7 → parseFieldDescriptor (TX5 k).2.2.1 = some (tyX5 k) := by decide +kernel
def RX6 : String := "SisterCount$Row"
def TX6 : u_T := fun k => match k with
  | 0 => ("SisterCount$Row", "numbers", "[J", true)
  | 1 => ("SisterCount$Row", "width", "I", false)
  | _ => ("SisterCount$Row", "length", "I", false)
def tyX6 : Nat → FieldType := fun k => match k with
  | 0 => .array .long
  | 1 => .int
  | _ => .int
theorem nmX6 : ∀ a, a < 3 → ∀ b, b < 3 → a ≠ b → (TX6 a).2.1 ≠ (TX6 b).2.1 := by decide +kernel
theorem tyX6_ok : ∀ k, k < 3 → parseFieldDescriptor (TX6 k).2.2.1 = some (tyX6 k) := by decide +kernel
def RX7 : String := "SisterCount$Tape"
def TX7 : u_T := fun k => match k with
  | 0 => ("SisterCount$Tape", "bytes", "[B", true)
  | _ => ("SisterCount$Tape", "length", "I", false)
def tyX7 : Nat → FieldType := fun k => match k with
  | 0 => .array .byte
  | _ => .int
theorem nmX7 : ∀ a, a < 2 → ∀ b, b < 2 → a ≠ b → (TX7 a).2.1 ≠ (TX7 b).2.1 := by decide +kernel
theorem tyX7_ok : ∀ k, k < 2 → parseFieldDescriptor (TX7 k).2.2.1 = some (tyX7 k) := by decide +kernel
def RX8 : String := "SisterCount$Town"
def TX8 : u_T := fun k => match k with
  | 0 => ("SisterCount$Town", "lines", "I", false)
  | 1 => ("SisterCount$Town", "from", "I", false)
  | 2 => ("SisterCount$Town", "to", "I", false)
  | 3 => ("SisterCount$Town", "houses", "I", false)
  | 4 => ("SisterCount$Town", "children", "I", false)
  | 5 => ("SisterCount$Town", "asks", "I", false)
  | 6 => ("SisterCount$Town", "yearsGone", "I", false)
  | 7 => ("SisterCount$Town", "homes", "[I", true)
  | 8 => ("SisterCount$Town", "sexes", "[I", true)
  | 9 => ("SisterCount$Town", "ages", "[I", true)
  | 10 => ("SisterCount$Town", "half", "[I", true)
  | 11 => ("SisterCount$Town", "dead", "[I", true)
  | 12 => ("SisterCount$Town", "away", "[I", true)
  | 13 => ("SisterCount$Town", "sorts", "[I", true)
  | 14 => ("SisterCount$Town", "orders", "[I", true)
  | 15 => ("SisterCount$Town", "living", "[I", true)
  | 16 => ("SisterCount$Town", "whole", "[I", true)
  | _ => ("SisterCount$Town", "slipped", "[I", true)
def tyX8 : Nat → FieldType := fun k => match k with
  | 0 => .int
  | 1 => .int
  | 2 => .int
  | 3 => .int
  | 4 => .int
  | 5 => .int
  | 6 => .int
  | 7 => .array .int
  | 8 => .array .int
  | 9 => .array .int
  | 10 => .array .int
  | 11 => .array .int
  | 12 => .array .int
  | 13 => .array .int
  | 14 => .array .int
  | 15 => .array .int
  | 16 => .array .int
  | _ => .array .int
theorem nmX8 : ∀ a, a < 18 → ∀ b, b < 18 → a ≠ b → (TX8 a).2.1 ≠ (TX8 b).2.1 := by decide +kernel
theorem tyX8_ok : ∀ k, k < 18 → parseFieldDescriptor (TX8 k).2.2.1 = some (tyX8 k) := by decide +kernel
def RX9 : String := "SisterCount"
def TX9 : u_T := fun k => match k with
  | 0 => ("SisterCount", "tape", "LSisterCount$Tape;", true)
  | 1 => ("SisterCount", "reader", "LSisterCount$Reader;", true)
  | 2 => ("SisterCount", "now", "LSisterCount$Town;", true)
  | 3 => ("SisterCount", "draft", "LSisterCount$Town;", true)
  | 4 => ("SisterCount", "images", "[LSisterCount$Town;", true)
  | 5 => ("SisterCount", "imagesKept", "I", false)
  | 6 => ("SisterCount", "slots", "[LSisterCount$Row;", true)
  | 7 => ("SisterCount", "answers", "LSisterCount$Answers;", true)
  | 8 => ("SisterCount", "chooser", "LSisterCount$Chooser;", true)
  | 9 => ("SisterCount", "joiner", "LSisterCount$Joiner;", true)
  | 10 => ("SisterCount", "matcher", "LSisterCount$Matcher;", true)
  | _ => ("SisterCount", "household", "LSisterCount$Household;", true)
def tyX9 : Nat → FieldType := fun k => match k with
  | 0 => .object "SisterCount$Tape"
  | 1 => .object "SisterCount$Reader"
  | 2 => .object "SisterCount$Town"
  | 3 => .object "SisterCount$Town"
  | 4 => .array (.object "SisterCount$Town")
  | 5 => .int
  | 6 => .array (.object "SisterCount$Row")
  | 7 => .object "SisterCount$Answers"
  | 8 => .object "SisterCount$Chooser"
  | 9 => .object "SisterCount$Joiner"
  | 10 => .object "SisterCount$Matcher"
  | _ => .object "SisterCount$Household"
theorem nmX9 : ∀ a, a < 12 → ∀ b, b < 12 → a ≠ b → (TX9 a).2.1 ≠ (TX9 b).2.1 := by decide +kernel
theorem tyX9_ok : ∀ k, k < 12 → parseFieldDescriptor (TX9 k).2.2.1 = some (tyX9 k) := by decide +kernel
def RX10 : String := "SisterCountModel"
def TX10 : u_T := fun k => match k with
  | 0 => ("SisterCountModel", "thrown", "I", false)
  | 1 => ("SisterCountModel", "world", "[I", true)
  | 2 => ("SisterCountModel", "images", "[I", true)
  | 3 => ("SisterCountModel", "hasImage", "[Z", true)
  | 4 => ("SisterCountModel", "tape", "[B", true)
  | 5 => ("SisterCountModel", "taped", "I", false)
  | 6 => ("SisterCountModel", "five", "[I", true)
  | 7 => ("SisterCountModel", "size", "I", false)
  | 8 => ("SisterCountModel", "at", "I", false)
  | 9 => ("SisterCountModel", "from", "I", false)
  | 10 => ("SisterCountModel", "token", "I", false)
  | 11 => ("SisterCountModel", "value", "I", false)
  | 12 => ("SisterCountModel", "faultKind", "I", false)
  | 13 => ("SisterCountModel", "faultPlace", "I", false)
  | 14 => ("SisterCountModel", "fresh", "[I", true)
  | 15 => ("SisterCountModel", "answers", "[I", true)
  | 16 => ("SisterCountModel", "girlsOf", "[I", true)
  | 17 => ("SisterCountModel", "boysOf", "[I", true)
  | 18 => ("SisterCountModel", "isBoy", "[I", true)
  | 19 => ("SisterCountModel", "toldMany", "I", false)
  | 20 => ("SisterCountModel", "oneOf", "I", false)
  | 21 => ("SisterCountModel", "otherOf", "I", false)
  | 22 => ("SisterCountModel", "ways", "[I", true)
  | 23 => ("SisterCountModel", "fewGirls", "[I", true)
  | 24 => ("SisterCountModel", "mostGirls", "[I", true)
  | 25 => ("SisterCountModel", "mayBe", "[Z", true)
  | 26 => ("SisterCountModel", "withOut", "I", false)
  | 27 => ("SisterCountModel", "oneHouse", "I", false)
  | 28 => ("SisterCountModel", "otherHouse", "I", false)
  | 29 => ("SisterCountModel", "yearsBetween", "I", false)
  | 30 => ("SisterCountModel", "wife", "[I", true)
  | 31 => ("SisterCountModel", "askedBy", "[I", true)
  | 32 => ("SisterCountModel", "husband", "[I", true)
  | 33 => ("SisterCountModel", "queue", "[I", true)
  | 34 => ("SisterCountModel", "sleepers", "[I", true)
  | 35 => ("SisterCountModel", "leastSet", "[I", true)
  | 36 => ("SisterCountModel", "drawn", "J", false)
  | 37 => ("SisterCountModel", "many", "[I", true)
  | 38 => ("SisterCountModel", "width", "[I", true)
  | 39 => ("SisterCountModel", "numbers", "[J", true)
  | _ => ("SisterCountModel", "moving", "[J", true)
def tyX10 : Nat → FieldType := fun k => match k with
  | 0 => .int
  | 1 => .array .int
  | 2 => .array .int
  | 3 => .array .boolean
  | 4 => .array .byte
  | 5 => .int
  | 6 => .array .int
  | 7 => .int
  | 8 => .int
  | 9 => .int
  | 10 => .int
  | 11 => .int
  | 12 => .int
  | 13 => .int
  | 14 => .array .int
  | 15 => .array .int
  | 16 => .array .int
  | 17 => .array .int
  | 18 => .array .int
  | 19 => .int
  | 20 => .int
  | 21 => .int
  | 22 => .array .int
  | 23 => .array .int
  | 24 => .array .int
  | 25 => .array .boolean
  | 26 => .int
  | 27 => .int
  | 28 => .int
  | 29 => .int
  | 30 => .array .int
  | 31 => .array .int
  | 32 => .array .int
  | 33 => .array .int
  | 34 => .array .int
  | 35 => .array .int
  | 36 => .long
  | 37 => .array .int
  | 38 => .array .int
  | 39 => .array .long
  | _ => .array .long
theorem nmX10 : ∀ a, a < 41 → ∀ b, b < 41 → a ≠ b → (TX10 a).2.1 ≠ (TX10 b).2.1 := by decide +kernel
theorem tyX10_ok : ∀ k, k < 41 → parseFieldDescriptor (TX10 k).2.2.1 = some (tyX10 k) := by decide +kernel
abbrev vwCl : List vw_C := [(RX0, TX0, 3), (RX1, TX1, 6), (RX2, TX2, 2), (RX3, TX3, 7), (RX4, TX4, 4), (RX5, TX5, 7), (RX6, TX6, 3), (RX7, TX7, 2), (RX8, TX8, 18), (RX9, TX9, 12), (RX10, TX10, 41)]
def q_dY (ci k : Nat) : FieldType := match ci with
  | 0 => tyX0 k
  | 1 => tyX1 k
  | 2 => tyX2 k
  | 3 => tyX3 k
  | 4 => tyX4 k
  | 5 => tyX5 k
  | 6 => tyX6 k
  | 7 => tyX7 k
  | 8 => tyX8 k
  | 9 => tyX9 k
  | _ => tyX10 k
def q_dA : List FieldType := [.int, .long, .byte, .boolean, .object "SisterCount$Town", .object "SisterCount$Row"]
def q_dN : List (String × Nat × MethodName × String) := [("SisterCount", 9, ⟨"SisterCount$Tape", "<init>", "()V"⟩, "SisterCount"), ("SisterCount", 27, ⟨"SisterCount$Town", "<init>", "()V"⟩, "SisterCount"), ("SisterCount", 67, ⟨"SisterCount$Joiner", "<init>", "()V"⟩, "SisterCount"), ("SisterCount", 86, ⟨"SisterCount$Row", "<init>", "()V"⟩, "SisterCount"), ("SisterCount$Town", 104, ⟨"SisterCount", "isIn", "(II)Z"⟩, "SisterCount"), ("SisterCount$Chooser", 64, ⟨"SisterCount", "isIn", "(II)Z"⟩, "SisterCount"), ("SisterCount$Answers", 39, ⟨"SisterCount", "isIn", "(II)Z"⟩, "SisterCount"), ("SisterCount$Matcher", 59, ⟨"SisterCount", "isIn", "(II)Z"⟩, "SisterCount")]
end
section
def q_c0 : List q_I := [(0, .aload_n 0, 1, .aload 0, 0),
  (1, .invokespecial 1, 3, .invokedynamic 0, 1025),
  (4, .aload_n 0, 1, .aload 0, 0),
  (5, .new 7, 3, .new 7, 1028),
  (8, .dup, 1, .dup, 0),
  (9, .invokespecial 9, 3, .invokespecial 1, 100000),
  (12, .putfield 10, 3, .putfield 576, 2069),
  (15, .aload_n 0, 1, .aload 0, 0),
  (16, .new 16, 3, .new 5, 1045),
  (19, .dup, 1, .dup, 0),
  (20, .aload_n 0, 1, .aload 0, 0),
  (21, .getfield 10, 3, .getfield 576, 2069),
  (24, .invokespecial 18, 3, .invokespecial 2, 1047),
  (27, .putfield 21, 3, .putfield 577, 2070),
  (30, .aload_n 0, 1, .aload 0, 0),
  (31, .new 25, 3, .new 8, 1075),
  (34, .dup, 1, .dup, 0),
  (35, .invokespecial 27, 3, .invokespecial 3, 100001),
  (38, .putfield 28, 3, .putfield 578, 2071),
  (41, .aload_n 0, 1, .aload 0, 0),
  (42, .new 25, 3, .new 8, 1075),
  (45, .dup, 1, .dup, 0),
  (46, .invokespecial 27, 3, .invokespecial 3, 100001),
  (49, .putfield 32, 3, .putfield 579, 2072),
  (52, .aload_n 0, 1, .aload 0, 0),
  (53, .iconst 3, 1, .iconst 3, 0),
  (54, .anewarray 25, 3, .anewarray 4, 1075),
  (57, .putfield 35, 3, .putfield 580, 2073),
  (60, .aload_n 0, 1, .aload 0, 0),
  (61, .iconst 0, 1, .iconst 0, 0),
  (62, .putfield 39, 3, .putfield 581, 2074),
  (65, .aload_n 0, 1, .aload 0, 0),
  (66, .iconst 4, 1, .iconst 4, 0),
  (67, .anewarray 43, 3, .anewarray 5, 1184),
  (70, .putfield 45, 3, .putfield 582, 2075),
  (73, .aload_n 0, 1, .aload 0, 0),
  (74, .new 49, 3, .new 0, 1186),
  (77, .dup, 1, .dup, 0),
  (78, .aload_n 0, 1, .aload 0, 0),
  (79, .getfield 28, 3, .getfield 578, 2071),
  (82, .invokespecial 51, 3, .invokespecial 4, 1188),
  (85, .putfield 54, 3, .putfield 583, 2076),
  (88, .aload_n 0, 1, .aload 0, 0),
  (89, .new 58, 3, .new 1, 1202),
  (92, .dup, 1, .dup, 0),
  (93, .aload_n 0, 1, .aload 0, 0),
  (94, .getfield 28, 3, .getfield 578, 2071),
  (97, .invokespecial 60, 3, .invokespecial 5, 1204),
  (100, .putfield 61, 3, .putfield 584, 2077),
  (103, .aload_n 0, 1, .aload 0, 0),
  (104, .new 65, 3, .new 3, 1228),
  (107, .dup, 1, .dup, 0),
  (108, .invokespecial 67, 3, .invokespecial 6, 100002),
  (111, .putfield 68, 3, .putfield 585, 2078),
  (114, .aload_n 0, 1, .aload 0, 0),
  (115, .new 72, 3, .new 4, 2016),
  (118, .dup, 1, .dup, 0),
  (119, .aload_n 0, 1, .aload 0, 0),
  (120, .getfield 28, 3, .getfield 578, 2071),
  (123, .invokespecial 74, 3, .invokespecial 7, 2018),
  (126, .putfield 75, 3, .putfield 586, 2079),
  (129, .aload_n 0, 1, .aload 0, 0),
  (130, .new 79, 3, .new 2, 2035),
  (133, .dup, 1, .dup, 0),
  (134, .aload_n 0, 1, .aload 0, 0),
  (135, .getfield 28, 3, .getfield 578, 2071),
  (138, .invokespecial 81, 3, .invokespecial 8, 2037),
  (141, .putfield 82, 3, .putfield 587, 2080),
  (144, .iconst 0, 1, .iconst 0, 0),
  (145, .istore_n 1, 1, .istore 1, 0),
  (146, .iload_n 1, 1, .iload 1, 0),
  (147, .iconst 3, 1, .iconst 3, 0),
  (148, .if_icmp .ge 22, 3, .if_icmp .ge 22, 0),
  (151, .aload_n 0, 1, .aload 0, 0),
  (152, .getfield 35, 3, .getfield 580, 2073),
  (155, .iload_n 1, 1, .iload 1, 0),
  (156, .new 25, 3, .new 8, 1075),
  (159, .dup, 1, .dup, 0),
  (160, .invokespecial 27, 3, .invokespecial 3, 100001),
  (163, .aastore, 1, .aastore, 0),
  (164, .iinc 1 1, 3, .iinc 1 1, 0),
  (167, .goto (-21), 3, .goto (-21), 0),
  (170, .iconst 0, 1, .iconst 0, 0),
  (171, .istore_n 1, 1, .istore 1, 0),
  (172, .iload_n 1, 1, .iload 1, 0),
  (173, .iconst 4, 1, .iconst 4, 0),
  (174, .if_icmp .ge 22, 3, .if_icmp .ge 22, 0),
  (177, .aload_n 0, 1, .aload 0, 0),
  (178, .getfield 45, 3, .getfield 582, 2075),
  (181, .iload_n 1, 1, .iload 1, 0),
  (182, .new 43, 3, .new 6, 1184),
  (185, .dup, 1, .dup, 0),
  (186, .invokespecial 86, 3, .invokespecial 9, 100003),
  (189, .aastore, 1, .aastore, 0),
  (190, .iinc 1 1, 3, .iinc 1 1, 0),
  (193, .goto (-21), 3, .goto (-21), 0),
  (196, .return_, 1, .return_, 0)]
def q_m0 : q_MI := (⟨"SisterCount", "<init>", "()V"⟩, prog_1_method_1_code, 2, none, q_c0, (2, 41, 0, 2), (1024, 1023, 0, 1001))
def q_c1 : List q_I := [(0, .aload_n 0, 1, .aload 0, 0),
  (1, .invokespecial 1, 3, .invokedynamic 0, 1033),
  (4, .aload_n 0, 1, .aload 0, 0),
  (5, .sipush 1200, 3, .iconst 1200, 0),
  (8, .newarray .byte, 2, .newarray .byte, 1044),
  (10, .putfield 9, 3, .putfield 448, 1034),
  (13, .aload_n 0, 1, .aload 0, 0),
  (14, .iconst 0, 1, .iconst 0, 0),
  (15, .putfield 13, 3, .putfield 449, 1036),
  (18, .return_, 1, .return_, 0)]
def q_m1 : q_MI := (⟨"SisterCount$Tape", "<init>", "()V"⟩, prog_9_method_1_code, 1, none, q_c1, (1, 20, 0, 2), (1032, 1031, 0, 1002))
def q_c2 : List q_I := [(0, .aload_n 0, 1, .aload 0, 0),
  (1, .invokespecial 3, 3, .invokedynamic 0, 1050),
  (4, .aload_n 0, 1, .aload 0, 0),
  (5, .iconst 0, 1, .iconst 0, 0),
  (6, .putfield 9, 3, .putfield 321, 1052),
  (9, .aload_n 0, 1, .aload 0, 0),
  (10, .iconst 0, 1, .iconst 0, 0),
  (11, .putfield 15, 3, .putfield 322, 1053),
  (14, .aload_n 0, 1, .aload 0, 0),
  (15, .iconst 0, 1, .iconst 0, 0),
  (16, .putfield 18, 3, .putfield 323, 1054),
  (19, .aload_n 0, 1, .aload 0, 0),
  (20, .iconst 0, 1, .iconst 0, 0),
  (21, .putfield 21, 3, .putfield 324, 1055),
  (24, .aload_n 0, 1, .aload 0, 0),
  (25, .iconst 0, 1, .iconst 0, 0),
  (26, .putfield 24, 3, .putfield 325, 1056),
  (29, .aload_n 0, 1, .aload 0, 0),
  (30, .iconst (-1), 1, .iconst (-1), 0),
  (31, .putfield 27, 3, .putfield 326, 1058),
  (34, .aload_n 0, 1, .aload 0, 0),
  (35, .aload_n 1, 1, .aload 1, 0),
  (36, .putfield 30, 3, .putfield 320, 1051),
  (39, .return_, 1, .return_, 0)]
def q_m2 : q_MI := (⟨"SisterCount$Reader", "<init>", "(LSisterCount$Tape;)V"⟩, prog_7_method_1_code, 2, none, q_c2, (1, 20, 1, 2), (1049, 1048, 0, 1003))
def q_c3 : List q_I := [(0, .aload_n 0, 1, .aload 0, 0),
  (1, .invokespecial 3, 3, .invokedynamic 0, 1080),
  (4, .aload_n 0, 1, .aload 0, 0),
  (5, .iconst 0, 1, .iconst 0, 0),
  (6, .putfield 9, 3, .putfield 512, 1081),
  (9, .aload_n 0, 1, .aload 0, 0),
  (10, .iconst 0, 1, .iconst 0, 0),
  (11, .putfield 15, 3, .putfield 513, 1084),
  (14, .aload_n 0, 1, .aload 0, 0),
  (15, .iconst 0, 1, .iconst 0, 0),
  (16, .putfield 18, 3, .putfield 514, 1087),
  (19, .aload_n 0, 1, .aload 0, 0),
  (20, .iconst 0, 1, .iconst 0, 0),
  (21, .putfield 21, 3, .putfield 515, 1090),
  (24, .aload_n 0, 1, .aload 0, 0),
  (25, .iconst 0, 1, .iconst 0, 0),
  (26, .putfield 24, 3, .putfield 516, 1093),
  (29, .aload_n 0, 1, .aload 0, 0),
  (30, .iconst 0, 1, .iconst 0, 0),
  (31, .putfield 27, 3, .putfield 517, 1100),
  (34, .aload_n 0, 1, .aload 0, 0),
  (35, .iconst 0, 1, .iconst 0, 0),
  (36, .putfield 30, 3, .putfield 518, 1104),
  (39, .aload_n 0, 1, .aload 0, 0),
  (40, .bipush 20, 2, .iconst 20, 0),
  (42, .newarray .int, 2, .newarray .int, 1182),
  (44, .putfield 33, 3, .putfield 519, 1106),
  (47, .aload_n 0, 1, .aload 0, 0),
  (48, .bipush 20, 2, .iconst 20, 0),
  (50, .newarray .int, 2, .newarray .int, 1182),
  (52, .putfield 37, 3, .putfield 520, 1112),
  (55, .aload_n 0, 1, .aload 0, 0),
  (56, .bipush 20, 2, .iconst 20, 0),
  (58, .newarray .int, 2, .newarray .int, 1182),
  (60, .putfield 40, 3, .putfield 521, 1118),
  (63, .aload_n 0, 1, .aload 0, 0),
  (64, .bipush 20, 2, .iconst 20, 0),
  (66, .newarray .int, 2, .newarray .int, 1182),
  (68, .putfield 43, 3, .putfield 522, 1123),
  (71, .aload_n 0, 1, .aload 0, 0),
  (72, .bipush 20, 2, .iconst 20, 0),
  (74, .newarray .int, 2, .newarray .int, 1182),
  (76, .putfield 46, 3, .putfield 523, 1127),
  (79, .aload_n 0, 1, .aload 0, 0),
  (80, .bipush 20, 2, .iconst 20, 0),
  (82, .newarray .int, 2, .newarray .int, 1182),
  (84, .putfield 49, 3, .putfield 524, 1132),
  (87, .aload_n 0, 1, .aload 0, 0),
  (88, .bipush 6, 2, .iconst 6, 0),
  (90, .newarray .int, 2, .newarray .int, 1182),
  (92, .putfield 52, 3, .putfield 525, 1135),
  (95, .aload_n 0, 1, .aload 0, 0),
  (96, .bipush 6, 2, .iconst 6, 0),
  (98, .newarray .int, 2, .newarray .int, 1182),
  (100, .putfield 55, 3, .putfield 526, 1137),
  (103, .aload_n 0, 1, .aload 0, 0),
  (104, .bipush 6, 2, .iconst 6, 0),
  (106, .newarray .int, 2, .newarray .int, 1182),
  (108, .putfield 58, 3, .putfield 527, 1139),
  (111, .aload_n 0, 1, .aload 0, 0),
  (112, .bipush 6, 2, .iconst 6, 0),
  (114, .newarray .int, 2, .newarray .int, 1182),
  (116, .putfield 61, 3, .putfield 528, 1141),
  (119, .aload_n 0, 1, .aload 0, 0),
  (120, .bipush 120, 2, .iconst 120, 0),
  (122, .newarray .int, 2, .newarray .int, 1182),
  (124, .putfield 64, 3, .putfield 529, 1143),
  (127, .return_, 1, .return_, 0)]
def q_m3 : q_MI := (⟨"SisterCount$Town", "<init>", "()V"⟩, prog_10_method_1_code, 1, none, q_c3, (1, 20, 0, 2), (1079, 1078, 0, 1004))
def q_c4 : List q_I := [(0, .aload_n 0, 1, .aload 0, 0),
  (1, .invokespecial 3, 3, .invokedynamic 0, 1191),
  (4, .aload_n 0, 1, .aload 0, 0),
  (5, .bipush 120, 2, .iconst 120, 0),
  (7, .newarray .int, 2, .newarray .int, 1182),
  (9, .putfield 9, 3, .putfield 1, 1193),
  (12, .aload_n 0, 1, .aload 0, 0),
  (13, .iconst 0, 1, .iconst 0, 0),
  (14, .putfield 15, 3, .putfield 2, 1194),
  (17, .aload_n 0, 1, .aload 0, 0),
  (18, .aload_n 1, 1, .aload 1, 0),
  (19, .putfield 19, 3, .putfield 0, 1192),
  (22, .return_, 1, .return_, 0)]
def q_m4 : q_MI := (⟨"SisterCount$Answers", "<init>", "(LSisterCount$Town;)V"⟩, prog_2_method_1_code, 2, none, q_c4, (1, 20, 1, 2), (1190, 1189, 0, 1005))
def q_c5 : List q_I := [(0, .aload_n 0, 1, .aload 0, 0),
  (1, .invokespecial 3, 3, .invokedynamic 0, 1207),
  (4, .aload_n 0, 1, .aload 0, 0),
  (5, .bipush 20, 2, .iconst 20, 0),
  (7, .newarray .int, 2, .newarray .int, 1182),
  (9, .putfield 9, 3, .putfield 65, 1209),
  (12, .aload_n 0, 1, .aload 0, 0),
  (13, .bipush 20, 2, .iconst 20, 0),
  (15, .newarray .int, 2, .newarray .int, 1182),
  (17, .putfield 15, 3, .putfield 66, 1210),
  (20, .aload_n 0, 1, .aload 0, 0),
  (21, .sipush 5061, 3, .iconst 5061, 0),
  (24, .newarray .int, 2, .newarray .int, 1182),
  (26, .putfield 18, 3, .putfield 67, 1211),
  (29, .aload_n 0, 1, .aload 0, 0),
  (30, .iconst 0, 1, .iconst 0, 0),
  (31, .putfield 21, 3, .putfield 68, 1212),
  (34, .aload_n 0, 1, .aload 0, 0),
  (35, .iconst 0, 1, .iconst 0, 0),
  (36, .putfield 25, 3, .putfield 69, 1213),
  (39, .aload_n 0, 1, .aload 0, 0),
  (40, .aload_n 1, 1, .aload 1, 0),
  (41, .putfield 28, 3, .putfield 64, 1208),
  (44, .return_, 1, .return_, 0)]
def q_m5 : q_MI := (⟨"SisterCount$Chooser", "<init>", "(LSisterCount$Town;)V"⟩, prog_3_method_1_code, 2, none, q_c5, (1, 20, 1, 2), (1206, 1205, 0, 1006))
def q_c6 : List q_I := [(0, .aload_n 0, 1, .aload 0, 0),
  (1, .invokespecial 3, 3, .invokedynamic 0, 1233),
  (4, .aload_n 0, 1, .aload 0, 0),
  (5, .bipush 10, 2, .iconst 10, 0),
  (7, .newarray .int, 2, .newarray .int, 1182),
  (9, .putfield 9, 3, .putfield 192, 1234),
  (12, .aload_n 0, 1, .aload 0, 0),
  (13, .bipush 10, 2, .iconst 10, 0),
  (15, .newarray .int, 2, .newarray .int, 1182),
  (17, .putfield 15, 3, .putfield 193, 1235),
  (20, .aload_n 0, 1, .aload 0, 0),
  (21, .bipush 10, 2, .iconst 10, 0),
  (23, .newarray .int, 2, .newarray .int, 1182),
  (25, .putfield 18, 3, .putfield 194, 1236),
  (28, .aload_n 0, 1, .aload 0, 0),
  (29, .sipush 1331, 3, .iconst 1331, 0),
  (32, .newarray .int, 2, .newarray .int, 1182),
  (34, .putfield 21, 3, .putfield 195, 1237),
  (37, .aload_n 0, 1, .aload 0, 0),
  (38, .bipush 11, 2, .iconst 11, 0),
  (40, .newarray .int, 2, .newarray .int, 1182),
  (42, .putfield 24, 3, .putfield 196, 1238),
  (45, .aload_n 0, 1, .aload 0, 0),
  (46, .bipush 11, 2, .iconst 11, 0),
  (48, .newarray .int, 2, .newarray .int, 1182),
  (50, .putfield 27, 3, .putfield 197, 1239),
  (53, .aload_n 0, 1, .aload 0, 0),
  (54, .iconst 0, 1, .iconst 0, 0),
  (55, .putfield 30, 3, .putfield 198, 2000),
  (58, .return_, 1, .return_, 0)]
def q_m6 : q_MI := (⟨"SisterCount$Joiner", "<init>", "()V"⟩, prog_5_method_1_code, 1, none, q_c6, (1, 20, 0, 2), (1232, 1231, 0, 1007))
def q_c7 : List q_I := [(0, .aload_n 0, 1, .aload 0, 0),
  (1, .invokespecial 3, 3, .invokedynamic 0, 2021),
  (4, .aload_n 0, 1, .aload 0, 0),
  (5, .bipush 20, 2, .iconst 20, 0),
  (7, .newarray .int, 2, .newarray .int, 1182),
  (9, .putfield 9, 3, .putfield 257, 2023),
  (12, .aload_n 0, 1, .aload 0, 0),
  (13, .bipush 20, 2, .iconst 20, 0),
  (15, .newarray .int, 2, .newarray .int, 1182),
  (17, .putfield 15, 3, .putfield 258, 2024),
  (20, .aload_n 0, 1, .aload 0, 0),
  (21, .bipush 20, 2, .iconst 20, 0),
  (23, .newarray .int, 2, .newarray .int, 1182),
  (25, .putfield 18, 3, .putfield 259, 2025),
  (28, .aload_n 0, 1, .aload 0, 0),
  (29, .aload_n 1, 1, .aload 1, 0),
  (30, .putfield 21, 3, .putfield 256, 2022),
  (33, .return_, 1, .return_, 0)]
def q_m7 : q_MI := (⟨"SisterCount$Matcher", "<init>", "(LSisterCount$Town;)V"⟩, prog_6_method_1_code, 2, none, q_c7, (1, 20, 1, 2), (2020, 2019, 0, 1008))
def q_c8 : List q_I := [(0, .aload_n 0, 1, .aload 0, 0),
  (1, .invokespecial 3, 3, .invokedynamic 0, 2040),
  (4, .aload_n 0, 1, .aload 0, 0),
  (5, .bipush 20, 2, .iconst 20, 0),
  (7, .newarray .int, 2, .newarray .int, 1182),
  (9, .putfield 9, 3, .putfield 129, 2042),
  (12, .aload_n 0, 1, .aload 0, 0),
  (13, .aload_n 1, 1, .aload 1, 0),
  (14, .putfield 15, 3, .putfield 128, 2041),
  (17, .return_, 1, .return_, 0)]
def q_m8 : q_MI := (⟨"SisterCount$Household", "<init>", "(LSisterCount$Town;)V"⟩, prog_4_method_1_code, 2, none, q_c8, (1, 20, 1, 2), (2039, 2038, 0, 1009))
def q_c9 : List q_I := [(0, .aload_n 0, 1, .aload 0, 0),
  (1, .invokespecial 3, 3, .invokedynamic 0, 2052),
  (4, .aload_n 0, 1, .aload 0, 0),
  (5, .bipush 60, 2, .iconst 60, 0),
  (7, .newarray .long, 2, .newarray .long, 2068),
  (9, .putfield 9, 3, .putfield 384, 2053),
  (12, .aload_n 0, 1, .aload 0, 0),
  (13, .iconst 0, 1, .iconst 0, 0),
  (14, .putfield 15, 3, .putfield 385, 2056),
  (17, .aload_n 0, 1, .aload 0, 0),
  (18, .iconst (-1), 1, .iconst (-1), 0),
  (19, .putfield 19, 3, .putfield 386, 2058),
  (22, .return_, 1, .return_, 0)]
def q_m9 : q_MI := (⟨"SisterCount$Row", "<init>", "()V"⟩, prog_8_method_1_code, 1, none, q_c9, (1, 20, 0, 2), (2051, 2050, 0, 1010))
def q_c10 : List q_I := [(0, .aload_n 0, 1, .aload 0, 0),
  (1, .getfield 10, 3, .getfield 576, 2069),
  (4, .invokevirtual 87, 3, .invokevirtual 11, 2110),
  (7, .ifCond .ne 5, 3, .ifCond .ne 5, 0),
  (12, .aload_n 0, 1, .aload 0, 0),
  (13, .getfield 10, 3, .getfield 576, 2069),
  (16, .iload_n 1, 1, .iload 1, 0),
  (17, .invokevirtual 91, 3, .invokevirtual 12, 2114),
  (20, .aload_n 0, 1, .aload 0, 0),
  (21, .getfield 10, 3, .getfield 576, 2069),
  (24, .iload_n 2, 1, .iload 2, 0),
  (25, .invokevirtual 91, 3, .invokevirtual 12, 2114),
  (28, .aload_n 0, 1, .aload 0, 0),
  (29, .getfield 10, 3, .getfield 576, 2069),
  (32, .iload_n 3, 1, .iload 3, 0),
  (33, .invokevirtual 91, 3, .invokevirtual 12, 2114),
  (36, .aload_n 0, 1, .aload 0, 0),
  (37, .getfield 10, 3, .getfield 576, 2069),
  (40, .iload 4, 2, .iload 4, 0),
  (42, .invokevirtual 91, 3, .invokevirtual 12, 2114),
  (45, .aload_n 0, 1, .aload 0, 0),
  (46, .getfield 10, 3, .getfield 576, 2069),
  (49, .iload 5, 2, .iload 5, 0),
  (51, .invokevirtual 91, 3, .invokevirtual 12, 2114),
  (54, .aload_n 0, 1, .aload 0, 0),
  (55, .getfield 10, 3, .getfield 576, 2069),
  (58, .getfield 95, 3, .getfield 449, 1038),
  (61, .ireturn, 1, .ireturn, 0)]
def q_m10 : q_MI := (⟨"SisterCount", "feed", "(IIIII)I"⟩, prog_1_method_2_code, 6, (some .int), q_c10, (1, 22, 5, 0), (2109, 2107, 2108, 1001))
def q_c11 : List q_I := [(0, .aload_n 0, 1, .aload 0, 0),
  (1, .getfield 13, 3, .getfield 449, 1036),
  (4, .bipush 20, 2, .iconst 20, 0),
  (6, .iadd, 1, .iadd, 0),
  (7, .sipush 1200, 3, .iconst 1200, 0),
  (10, .if_icmp .gt 7, 3, .if_icmp .gt 7, 0),
  (13, .iconst 1, 1, .iconst 1, 0),
  (14, .goto 4, 3, .goto 4, 0),
  (18, .ireturn, 1, .ireturn, 0)]
def q_m11 : q_MI := (⟨"SisterCount$Tape", "hasRoom", "()Z"⟩, prog_9_method_2_code, 1, (some .boolean), q_c11, (0, 0, 0, 0), (2113, 2111, 2112, 1002))
def q_c12 : List q_I := [(0, .bipush 24, 2, .iconst 24, 0),
  (2, .istore_n 2, 1, .istore 2, 0),
  (3, .iload_n 2, 1, .iload 2, 0),
  (4, .ifCond .lt 42, 3, .ifCond .lt 42, 0),
  (7, .aload_n 0, 1, .aload 0, 0),
  (8, .getfield 13, 3, .getfield 449, 1036),
  (11, .sipush 1200, 3, .iconst 1200, 0),
  (14, .if_icmp .ge 32, 3, .if_icmp .ge 32, 0),
  (17, .aload_n 0, 1, .aload 0, 0),
  (18, .getfield 9, 3, .getfield 448, 1034),
  (21, .aload_n 0, 1, .aload 0, 0),
  (22, .getfield 13, 3, .getfield 449, 1036),
  (25, .iload_n 1, 1, .iload 1, 0),
  (26, .iload_n 2, 1, .iload 2, 0),
  (27, .ishr, 1, .ishr, 0),
  (28, .i2b, 1, .i2b, 0),
  (29, .bastore, 1, .bastore, 0),
  (30, .aload_n 0, 1, .aload 0, 0),
  (31, .dup, 1, .dup, 0),
  (32, .getfield 13, 3, .getfield 449, 1036),
  (35, .iconst 1, 1, .iconst 1, 0),
  (36, .iadd, 1, .iadd, 0),
  (37, .putfield 13, 3, .putfield 449, 1036),
  (40, .iinc 2 (-8), 3, .iinc 2 (-8), 0),
  (43, .goto (-40), 3, .goto (-40), 0),
  (46, .return_, 1, .return_, 0)]
def q_m12 : q_MI := (⟨"SisterCount$Tape", "append", "(I)V"⟩, prog_9_method_3_code, 3, none, q_c12, (0, 0, 1, 0), (2117, 2115, 2116, 1002))
def q_c13 : List q_I := [(0, .iload_n 1, 1, .iload 1, 0),
  (1, .ifCond .lt 14, 3, .ifCond .lt 14, 0),
  (4, .iload_n 1, 1, .iload 1, 0),
  (5, .aload_n 0, 1, .aload 0, 0),
  (6, .getfield 10, 3, .getfield 576, 2069),
  (9, .getfield 95, 3, .getfield 449, 1038),
  (12, .if_icmp .le 5, 3, .if_icmp .le 5, 0),
  (15, .iconst (-1), 1, .iconst (-1), 0),
  (16, .ireturn, 1, .ireturn, 0),
  (17, .aload_n 0, 1, .aload 0, 0),
  (18, .getfield 10, 3, .getfield 576, 2069),
  (21, .iload_n 1, 1, .iload 1, 0),
  (22, .putfield 95, 3, .putfield 449, 1038),
  (25, .iload_n 1, 1, .iload 1, 0),
  (26, .ireturn, 1, .ireturn, 0)]
def q_m13 : q_MI := (⟨"SisterCount", "end", "(I)I"⟩, prog_1_method_3_code, 2, (some .int), q_c13, (0, 0, 1, 0), (2121, 2119, 2120, 1001))
def q_c14 : List q_I := [(0, .aload_n 0, 1, .aload 0, 0),
  (1, .getfield 21, 3, .getfield 577, 2070),
  (4, .aload_n 0, 1, .aload 0, 0),
  (5, .getfield 32, 3, .getfield 579, 2072),
  (8, .invokevirtual 98, 3, .invokevirtual 15, 2126),
  (11, .aload_n 0, 1, .aload 0, 0),
  (12, .getfield 21, 3, .getfield 577, 2070),
  (15, .getfield 101, 3, .getfield 325, 1057),
  (18, .ifCond .eq 6, 3, .ifCond .eq 6, 0),
  (24, .aload_n 0, 1, .aload 0, 0),
  (25, .getfield 10, 3, .getfield 576, 2069),
  (28, .iconst 0, 1, .iconst 0, 0),
  (29, .putfield 95, 3, .putfield 449, 1038),
  (32, .aload_n 0, 1, .aload 0, 0),
  (33, .getfield 28, 3, .getfield 578, 2071),
  (36, .aload_n 0, 1, .aload 0, 0),
  (37, .getfield 32, 3, .getfield 579, 2072),
  (40, .invokevirtual 104, 3, .invokevirtual 20, 3037),
  (43, .aload_n 0, 1, .aload 0, 0),
  (44, .getfield 28, 3, .getfield 578, 2071),
  (47, .getfield 107, 3, .getfield 512, 1083),
  (50, .ireturn, 1, .ireturn, 0)]
def q_m14 : q_MI := (⟨"SisterCount", "town", "()I"⟩, prog_1_method_4_code, 1, (some .int), q_c14, (3, 65, 0, 0), (2125, 2123, 2124, 1001))
def q_c15 : List q_I := [(0, .aload_n 1, 1, .aload 1, 0),
  (1, .invokevirtual 34, 3, .invokevirtual 16, 2130),
  (4, .aload_n 0, 1, .aload 0, 0),
  (5, .iconst 0, 1, .iconst 0, 0),
  (6, .putfield 24, 3, .putfield 325, 1056),
  (9, .aload_n 0, 1, .aload 0, 0),
  (10, .iconst (-1), 1, .iconst (-1), 0),
  (11, .putfield 27, 3, .putfield 326, 1058),
  (14, .aload_n 0, 1, .aload 0, 0),
  (15, .iconst 0, 1, .iconst 0, 0),
  (16, .putfield 9, 3, .putfield 321, 1052),
  (19, .aload_n 0, 1, .aload 0, 0),
  (20, .invokevirtual 39, 3, .invokevirtual 18, 2137),
  (23, .iconst 0, 1, .iconst 0, 0),
  (24, .istore_n 2, 1, .istore 2, 0),
  (25, .iload_n 2, 1, .iload 2, 0),
  (26, .aload_n 0, 1, .aload 0, 0),
  (27, .getfield 30, 3, .getfield 320, 1051),
  (30, .getfield 42, 3, .getfield 449, 1037),
  (33, .if_icmp .ge 28, 3, .if_icmp .ge 28, 0),
  (61, .return_, 1, .return_, 0)]
def q_m15 : q_MI := (⟨"SisterCount$Reader", "readInto", "(LSisterCount$Town;)V"⟩, prog_7_method_2_code, 3, none, q_c15, (2, 43, 1, 0), (2129, 2127, 2128, 1003))
def q_c16 : List q_I := [(0, .aload_n 0, 1, .aload 0, 0),
  (1, .iconst 0, 1, .iconst 0, 0),
  (2, .putfield 9, 3, .putfield 512, 1081),
  (5, .aload_n 0, 1, .aload 0, 0),
  (6, .iconst 0, 1, .iconst 0, 0),
  (7, .putfield 15, 3, .putfield 513, 1084),
  (10, .aload_n 0, 1, .aload 0, 0),
  (11, .iconst 0, 1, .iconst 0, 0),
  (12, .putfield 18, 3, .putfield 514, 1087),
  (15, .aload_n 0, 1, .aload 0, 0),
  (16, .iconst 0, 1, .iconst 0, 0),
  (17, .putfield 21, 3, .putfield 515, 1090),
  (20, .aload_n 0, 1, .aload 0, 0),
  (21, .iconst 0, 1, .iconst 0, 0),
  (22, .putfield 24, 3, .putfield 516, 1093),
  (25, .aload_n 0, 1, .aload 0, 0),
  (26, .iconst 0, 1, .iconst 0, 0),
  (27, .putfield 27, 3, .putfield 517, 1100),
  (30, .aload_n 0, 1, .aload 0, 0),
  (31, .iconst 0, 1, .iconst 0, 0),
  (32, .putfield 30, 3, .putfield 518, 1104),
  (35, .aload_n 0, 1, .aload 0, 0),
  (36, .getfield 64, 3, .getfield 529, 1143),
  (39, .iconst 0, 1, .iconst 0, 0),
  (40, .invokestatic 67, 3, .invokestatic 17, 2134),
  (43, .return_, 1, .return_, 0)]
def q_m16 : q_MI := (⟨"SisterCount$Town", "clear", "()V"⟩, prog_10_method_2_code, 1, none, q_c16, (1, 23, 0, 0), (2133, 2131, 2132, 1004))
def q_c17 : List q_I := [(0, .iconst 0, 1, .iconst 0, 0),
  (1, .istore_n 2, 1, .istore 2, 0),
  (2, .aload_n 0, 1, .aload 0, 0),
  (3, .arraylength, 1, .arraylength, 0),
  (4, .istore_n 3, 1, .istore 3, 0),
  (5, .iload_n 2, 1, .iload 2, 0),
  (6, .iload_n 3, 1, .iload 3, 0),
  (7, .if_icmp .ge 13, 3, .if_icmp .ge 13, 0),
  (10, .aload_n 0, 1, .aload 0, 0),
  (11, .iload_n 2, 1, .iload 2, 0),
  (12, .iload_n 1, 1, .iload 1, 0),
  (13, .iastore, 1, .iastore, 0),
  (14, .iinc 2 1, 3, .iinc 2 1, 0),
  (17, .goto (-12), 3, .goto (-12), 0),
  (20, .return_, 1, .return_, 0)]
def q_m17 : q_MI := (⟨"java/util/Arrays", "fill", "([II)V"⟩, prog_19_method_103_code, 4, none, q_c17, (0, 0, 2, 1), (2136, 2135, 0, 1012))
def q_c18 : List q_I := [(0, .aload_n 0, 1, .aload 0, 0),
  (1, .getfield 9, 3, .getfield 321, 1052),
  (4, .aload_n 0, 1, .aload 0, 0),
  (5, .getfield 30, 3, .getfield 320, 1051),
  (8, .getfield 42, 3, .getfield 449, 1037),
  (11, .if_icmp .ge 34, 3, .if_icmp .ge 34, 0),
  (45, .aload_n 0, 1, .aload 0, 0),
  (46, .aload_n 0, 1, .aload 0, 0),
  (47, .getfield 9, 3, .getfield 321, 1052),
  (50, .putfield 15, 3, .putfield 322, 1053),
  (53, .aload_n 0, 1, .aload 0, 0),
  (54, .aload_n 0, 1, .aload 0, 0),
  (55, .aload_n 0, 1, .aload 0, 0),
  (56, .getfield 9, 3, .getfield 321, 1052),
  (59, .invokevirtual 195, 3, .invokevirtual 19, 2144),
  (62, .putfield 18, 3, .putfield 323, 1054),
  (65, .aload_n 0, 1, .aload 0, 0),
  (66, .iconst 0, 1, .iconst 0, 0),
  (67, .putfield 21, 3, .putfield 324, 1055),
  (70, .aload_n 0, 1, .aload 0, 0),
  (71, .getfield 18, 3, .getfield 323, 1054),
  (74, .iconst 1, 1, .iconst 1, 0),
  (75, .if_icmp .eq 11, 3, .if_icmp .eq 11, 0),
  (78, .aload_n 0, 1, .aload 0, 0),
  (79, .getfield 18, 3, .getfield 323, 1054),
  (82, .iconst 2, 1, .iconst 2, 0),
  (83, .if_icmp .ne 7, 3, .if_icmp .ne 7, 0),
  (90, .iconst 0, 1, .iconst 0, 0),
  (91, .istore_n 1, 1, .istore 1, 0),
  (92, .aload_n 0, 1, .aload 0, 0),
  (93, .getfield 9, 3, .getfield 321, 1052),
  (96, .aload_n 0, 1, .aload 0, 0),
  (97, .getfield 30, 3, .getfield 320, 1051),
  (100, .getfield 42, 3, .getfield 449, 1037),
  (103, .if_icmp .ge 87, 3, .if_icmp .ge 87, 0),
  (190, .return_, 1, .return_, 0)]
def q_m18 : q_MI := (⟨"SisterCount$Reader", "step", "()V"⟩, prog_7_method_16_code, 2, none, q_c18, (1, 22, 0, 0), (2140, 2139, 0, 1003))
def q_c19 : List q_I := [(0, .iload_n 1, 1, .iload 1, 0),
  (1, .aload_n 0, 1, .aload 0, 0),
  (2, .getfield 30, 3, .getfield 320, 1051),
  (5, .getfield 42, 3, .getfield 449, 1037),
  (8, .if_icmp .lt 5, 3, .if_icmp .lt 5, 0),
  (11, .iconst 0, 1, .iconst 0, 0),
  (12, .ireturn, 1, .ireturn, 0)]
def q_m19 : q_MI := (⟨"SisterCount$Reader", "kindAt", "(I)I"⟩, prog_7_method_18_code, 3, (some .int), q_c19, (0, 0, 1, 0), (2147, 2146, 1, 1003))
def q_c20 : List q_I := [(0, .aload_n 0, 1, .aload 0, 0),
  (1, .aload_n 1, 1, .aload 1, 0),
  (2, .getfield 9, 3, .getfield 512, 1081),
  (5, .putfield 9, 3, .putfield 512, 1081),
  (8, .aload_n 0, 1, .aload 0, 0),
  (9, .aload_n 1, 1, .aload 1, 0),
  (10, .getfield 15, 3, .getfield 513, 1084),
  (13, .putfield 15, 3, .putfield 513, 1084),
  (16, .aload_n 0, 1, .aload 0, 0),
  (17, .aload_n 1, 1, .aload 1, 0),
  (18, .getfield 18, 3, .getfield 514, 1087),
  (21, .putfield 18, 3, .putfield 514, 1087),
  (24, .aload_n 0, 1, .aload 0, 0),
  (25, .aload_n 1, 1, .aload 1, 0),
  (26, .getfield 21, 3, .getfield 515, 1090),
  (29, .putfield 21, 3, .putfield 515, 1090),
  (32, .aload_n 0, 1, .aload 0, 0),
  (33, .aload_n 1, 1, .aload 1, 0),
  (34, .getfield 24, 3, .getfield 516, 1093),
  (37, .putfield 24, 3, .putfield 516, 1093),
  (40, .aload_n 0, 1, .aload 0, 0),
  (41, .aload_n 1, 1, .aload 1, 0),
  (42, .getfield 27, 3, .getfield 517, 1100),
  (45, .putfield 27, 3, .putfield 517, 1100),
  (48, .aload_n 0, 1, .aload 0, 0),
  (49, .aload_n 1, 1, .aload 1, 0),
  (50, .getfield 30, 3, .getfield 518, 1104),
  (53, .putfield 30, 3, .putfield 518, 1104),
  (56, .aload_n 1, 1, .aload 1, 0),
  (57, .getfield 33, 3, .getfield 519, 1106),
  (60, .iconst 0, 1, .iconst 0, 0),
  (61, .aload_n 0, 1, .aload 0, 0),
  (62, .getfield 33, 3, .getfield 519, 1106),
  (65, .iconst 0, 1, .iconst 0, 0),
  (66, .bipush 20, 2, .iconst 20, 0),
  (68, .invokestatic 73, 3, .invokedynamic 1, 3041),
  (71, .aload_n 1, 1, .aload 1, 0),
  (72, .getfield 37, 3, .getfield 520, 1112),
  (75, .iconst 0, 1, .iconst 0, 0),
  (76, .aload_n 0, 1, .aload 0, 0),
  (77, .getfield 37, 3, .getfield 520, 1112),
  (80, .iconst 0, 1, .iconst 0, 0),
  (81, .bipush 20, 2, .iconst 20, 0),
  (83, .invokestatic 73, 3, .invokedynamic 1, 3041),
  (86, .aload_n 1, 1, .aload 1, 0),
  (87, .getfield 40, 3, .getfield 521, 1118),
  (90, .iconst 0, 1, .iconst 0, 0),
  (91, .aload_n 0, 1, .aload 0, 0),
  (92, .getfield 40, 3, .getfield 521, 1118),
  (95, .iconst 0, 1, .iconst 0, 0),
  (96, .bipush 20, 2, .iconst 20, 0),
  (98, .invokestatic 73, 3, .invokedynamic 1, 3041),
  (101, .aload_n 1, 1, .aload 1, 0),
  (102, .getfield 43, 3, .getfield 522, 1123),
  (105, .iconst 0, 1, .iconst 0, 0),
  (106, .aload_n 0, 1, .aload 0, 0),
  (107, .getfield 43, 3, .getfield 522, 1123),
  (110, .iconst 0, 1, .iconst 0, 0),
  (111, .bipush 20, 2, .iconst 20, 0),
  (113, .invokestatic 73, 3, .invokedynamic 1, 3041),
  (116, .aload_n 1, 1, .aload 1, 0),
  (117, .getfield 46, 3, .getfield 523, 1127),
  (120, .iconst 0, 1, .iconst 0, 0),
  (121, .aload_n 0, 1, .aload 0, 0),
  (122, .getfield 46, 3, .getfield 523, 1127),
  (125, .iconst 0, 1, .iconst 0, 0),
  (126, .bipush 20, 2, .iconst 20, 0),
  (128, .invokestatic 73, 3, .invokedynamic 1, 3041),
  (131, .aload_n 1, 1, .aload 1, 0),
  (132, .getfield 49, 3, .getfield 524, 1132),
  (135, .iconst 0, 1, .iconst 0, 0),
  (136, .aload_n 0, 1, .aload 0, 0),
  (137, .getfield 49, 3, .getfield 524, 1132),
  (140, .iconst 0, 1, .iconst 0, 0),
  (141, .bipush 20, 2, .iconst 20, 0),
  (143, .invokestatic 73, 3, .invokedynamic 1, 3041),
  (146, .aload_n 1, 1, .aload 1, 0),
  (147, .getfield 52, 3, .getfield 525, 1135),
  (150, .iconst 0, 1, .iconst 0, 0),
  (151, .aload_n 0, 1, .aload 0, 0),
  (152, .getfield 52, 3, .getfield 525, 1135),
  (155, .iconst 0, 1, .iconst 0, 0),
  (156, .bipush 6, 2, .iconst 6, 0),
  (158, .invokestatic 73, 3, .invokedynamic 1, 3041),
  (161, .aload_n 1, 1, .aload 1, 0),
  (162, .getfield 55, 3, .getfield 526, 1137),
  (165, .iconst 0, 1, .iconst 0, 0),
  (166, .aload_n 0, 1, .aload 0, 0),
  (167, .getfield 55, 3, .getfield 526, 1137),
  (170, .iconst 0, 1, .iconst 0, 0),
  (171, .bipush 6, 2, .iconst 6, 0),
  (173, .invokestatic 73, 3, .invokedynamic 1, 3041),
  (176, .aload_n 1, 1, .aload 1, 0),
  (177, .getfield 58, 3, .getfield 527, 1139),
  (180, .iconst 0, 1, .iconst 0, 0),
  (181, .aload_n 0, 1, .aload 0, 0),
  (182, .getfield 58, 3, .getfield 527, 1139),
  (185, .iconst 0, 1, .iconst 0, 0),
  (186, .bipush 6, 2, .iconst 6, 0),
  (188, .invokestatic 73, 3, .invokedynamic 1, 3041),
  (191, .aload_n 1, 1, .aload 1, 0),
  (192, .getfield 61, 3, .getfield 528, 1141),
  (195, .iconst 0, 1, .iconst 0, 0),
  (196, .aload_n 0, 1, .aload 0, 0),
  (197, .getfield 61, 3, .getfield 528, 1141),
  (200, .iconst 0, 1, .iconst 0, 0),
  (201, .bipush 6, 2, .iconst 6, 0),
  (203, .invokestatic 73, 3, .invokedynamic 1, 3041),
  (206, .aload_n 1, 1, .aload 1, 0),
  (207, .getfield 64, 3, .getfield 529, 1143),
  (210, .iconst 0, 1, .iconst 0, 0),
  (211, .aload_n 0, 1, .aload 0, 0),
  (212, .getfield 64, 3, .getfield 529, 1143),
  (215, .iconst 0, 1, .iconst 0, 0),
  (216, .bipush 120, 2, .iconst 120, 0),
  (218, .invokestatic 73, 3, .invokedynamic 1, 3041),
  (221, .return_, 1, .return_, 0)]
def q_m20 : q_MI := (⟨"SisterCount$Town", "copyFrom", "(LSisterCount$Town;)V"⟩, prog_10_method_3_code, 2, none, q_c20, (1, 26, 1, 0), (3040, 3038, 3039, 1004))
def q_c21 : List q_I := [(0, .iload_n 1, 1, .iload 1, 0),
  (1, .ifCond .ne 11, 3, .ifCond .ne 11, 0),
  (4, .aload_n 0, 1, .aload 0, 0),
  (5, .getfield 21, 3, .getfield 577, 2070),
  (8, .getfield 101, 3, .getfield 325, 1057),
  (11, .ireturn, 1, .ireturn, 0),
  (12, .iload_n 1, 1, .iload 1, 0),
  (13, .iconst 1, 1, .iconst 1, 0),
  (14, .if_icmp .ne 13, 3, .if_icmp .ne 13, 0),
  (17, .aload_n 0, 1, .aload 0, 0),
  (18, .getfield 21, 3, .getfield 577, 2070),
  (21, .getfield 110, 3, .getfield 326, 1059),
  (24, .goto 4, 3, .goto 4, 0),
  (27, .iconst (-1), 1, .iconst (-1), 0),
  (28, .ireturn, 1, .ireturn, 0)]
def q_m21 : q_MI := (⟨"SisterCount", "fault", "(I)I"⟩, prog_1_method_5_code, 2, (some .int), q_c21, (0, 0, 1, 0), (3047, 3045, 3046, 1001))
def q_c22 : List q_I := [(0, .aload_n 0, 1, .aload 0, 0),
  (1, .getfield 28, 3, .getfield 578, 2071),
  (4, .iload_n 1, 1, .iload 1, 0),
  (5, .invokevirtual 113, 3, .invokevirtual 23, 3052),
  (8, .ifCond .ne 6, 3, .ifCond .ne 6, 0),
  (11, .bipush (-2), 2, .iconst (-2), 0),
  (13, .ireturn, 1, .ireturn, 0)]
def q_m22 : q_MI := (⟨"SisterCount", "child", "(II)I"⟩, prog_1_method_6_code, 3, (some .int), q_c22, (1, 21, 2, 0), (3051, 3049, 3050, 1001))
def q_c23 : List q_I := [(0, .iload_n 1, 1, .iload 1, 0),
  (1, .ifCond .lt 15, 3, .ifCond .lt 15, 0),
  (4, .iload_n 1, 1, .iload 1, 0),
  (5, .aload_n 0, 1, .aload 0, 0),
  (6, .getfield 24, 3, .getfield 516, 1093),
  (9, .if_icmp .ge 7, 3, .if_icmp .ge 7, 0),
  (16, .iconst 0, 1, .iconst 0, 0),
  (17, .ireturn, 1, .ireturn, 0)]
def q_m23 : q_MI := (⟨"SisterCount$Town", "hasChild", "(I)Z"⟩, prog_10_method_6_code, 2, (some .boolean), q_c23, (0, 0, 1, 0), (3055, 3053, 3054, 1004))
def q_c24 : List q_I := [(0, .aload_n 0, 1, .aload 0, 0),
  (1, .getfield 28, 3, .getfield 578, 2071),
  (4, .iload_n 1, 1, .iload 1, 0),
  (5, .invokevirtual 136, 3, .invokevirtual 25, 3060),
  (8, .ifCond .ne 6, 3, .ifCond .ne 6, 0),
  (11, .bipush (-2), 2, .iconst (-2), 0),
  (13, .ireturn, 1, .ireturn, 0)]
def q_m24 : q_MI := (⟨"SisterCount", "house", "(II)I"⟩, prog_1_method_7_code, 3, (some .int), q_c24, (1, 21, 2, 0), (3059, 3057, 3058, 1001))
def q_c25 : List q_I := [(0, .iload_n 1, 1, .iload 1, 0),
  (1, .ifCond .lt 15, 3, .ifCond .lt 15, 0),
  (4, .iload_n 1, 1, .iload 1, 0),
  (5, .aload_n 0, 1, .aload 0, 0),
  (6, .getfield 21, 3, .getfield 515, 1090),
  (9, .if_icmp .ge 7, 3, .if_icmp .ge 7, 0),
  (16, .iconst 0, 1, .iconst 0, 0),
  (17, .ireturn, 1, .ireturn, 0)]
def q_m25 : q_MI := (⟨"SisterCount$Town", "hasHouse", "(I)Z"⟩, prog_10_method_5_code, 2, (some .boolean), q_c25, (0, 0, 1, 0), (3063, 3061, 3062, 1004))
def q_c26 : List q_I := [(0, .iconst 0, 1, .iconst 0, 0),
  (1, .istore_n 1, 1, .istore 1, 0),
  (2, .iconst 0, 1, .iconst 0, 0),
  (3, .istore_n 2, 1, .istore 2, 0),
  (4, .iload_n 2, 1, .iload 2, 0),
  (5, .aload_n 0, 1, .aload 0, 0),
  (6, .getfield 24, 3, .getfield 516, 1093),
  (9, .if_icmp .ge 23, 3, .if_icmp .ge 23, 0),
  (32, .iload_n 1, 1, .iload 1, 0),
  (33, .ireturn, 1, .ireturn, 0)]
def q_m26 : q_MI := (⟨"SisterCount$Town", "scholarBits", "()I"⟩, prog_10_method_14_code, 3, (some .int), q_c26, (0, 0, 0, 0), (3072, 3070, 3071, 1004))
def q_c27 : List q_I := [(0, .iload_n 0, 1, .iload 0, 0),
  (1, .iload_n 0, 1, .iload 0, 0),
  (2, .iconst 1, 1, .iconst 1, 0),
  (3, .iushr, 1, .iushr, 0),
  (4, .ldc_w 265, 3, .sipush 1431655765, 3088),
  (7, .iand, 1, .iand, 0),
  (8, .isub, 1, .isub, 0),
  (9, .istore_n 0, 1, .istore 0, 0),
  (10, .iload_n 0, 1, .iload 0, 0),
  (11, .ldc_w 266, 3, .sipush 858993459, 3089),
  (14, .iand, 1, .iand, 0),
  (15, .iload_n 0, 1, .iload 0, 0),
  (16, .iconst 2, 1, .iconst 2, 0),
  (17, .iushr, 1, .iushr, 0),
  (18, .ldc_w 266, 3, .sipush 858993459, 3089),
  (21, .iand, 1, .iand, 0),
  (22, .iadd, 1, .iadd, 0),
  (23, .istore_n 0, 1, .istore 0, 0),
  (24, .iload_n 0, 1, .iload 0, 0),
  (25, .iload_n 0, 1, .iload 0, 0),
  (26, .iconst 4, 1, .iconst 4, 0),
  (27, .iushr, 1, .iushr, 0),
  (28, .iadd, 1, .iadd, 0),
  (29, .ldc_w 267, 3, .sipush 252645135, 3090),
  (32, .iand, 1, .iand, 0),
  (33, .istore_n 0, 1, .istore 0, 0),
  (34, .iload_n 0, 1, .iload 0, 0),
  (35, .iload_n 0, 1, .iload 0, 0),
  (36, .bipush 8, 2, .iconst 8, 0),
  (38, .iushr, 1, .iushr, 0),
  (39, .iadd, 1, .iadd, 0),
  (40, .istore_n 0, 1, .istore 0, 0),
  (41, .iload_n 0, 1, .iload 0, 0),
  (42, .iload_n 0, 1, .iload 0, 0),
  (43, .bipush 16, 2, .iconst 16, 0),
  (45, .iushr, 1, .iushr, 0),
  (46, .iadd, 1, .iadd, 0),
  (47, .istore_n 0, 1, .istore 0, 0),
  (48, .iload_n 0, 1, .iload 0, 0),
  (49, .bipush 63, 2, .iconst 63, 0),
  (51, .iand, 1, .iand, 0),
  (52, .ireturn, 1, .ireturn, 0)]
def q_m27 : q_MI := (⟨"java/lang/Integer", "bitCount", "(I)I"⟩, prog_13_method_49_code, 1, (some .int), q_c27, (0, 0, 1, 1), (3087, 3086, 0, 1019))
def q_c28 : List q_I := [(0, .aload_n 0, 1, .aload 0, 0),
  (1, .getfield 28, 3, .getfield 578, 2071),
  (4, .invokevirtual 150, 3, .invokevirtual 29, 3099),
  (7, .ifCond .eq 13, 3, .ifCond .eq 13, 0),
  (20, .bipush (-2), 2, .iconst (-2), 0),
  (22, .ireturn, 1, .ireturn, 0)]
def q_m28 : q_MI := (⟨"SisterCount", "scholars", "()I"⟩, prog_1_method_8_code, 1, (some .int), q_c28, (1, 20, 0, 0), (3098, 3096, 3097, 1001))
def q_c29 : List q_I := [(0, .aload_n 0, 1, .aload 0, 0),
  (1, .getfield 9, 3, .getfield 512, 1081),
  (4, .ifCond .le 7, 3, .ifCond .le 7, 0),
  (11, .iconst 0, 1, .iconst 0, 0),
  (12, .ireturn, 1, .ireturn, 0)]
def q_m29 : q_MI := (⟨"SisterCount$Town", "stands", "()Z"⟩, prog_10_method_4_code, 1, (some .boolean), q_c29, (0, 0, 0, 0), (3102, 3100, 3101, 1004))
def q_c30 : List q_I := [(0, .aload_n 0, 1, .aload 0, 0),
  (1, .getfield 28, 3, .getfield 578, 2071),
  (4, .iload_n 1, 1, .iload 1, 0),
  (5, .invokevirtual 113, 3, .invokevirtual 23, 3052),
  (8, .ifCond .eq 14, 3, .ifCond .eq 14, 0),
  (22, .bipush (-2), 2, .iconst (-2), 0),
  (24, .ireturn, 1, .ireturn, 0)]
def q_m30 : q_MI := (⟨"SisterCount", "truth", "(II)I"⟩, prog_1_method_9_code, 3, (some .int), q_c30, (1, 21, 2, 0), (3107, 3105, 3106, 1001))
def q_c31 : List q_I := [(0, .iload_n 1, 1, .iload 1, 0),
  (1, .ifCond .lt 15, 3, .ifCond .lt 15, 0),
  (4, .iload_n 1, 1, .iload 1, 0),
  (5, .aload_n 0, 1, .aload 0, 0),
  (6, .getfield 27, 3, .getfield 517, 1100),
  (9, .if_icmp .ge 7, 3, .if_icmp .ge 7, 0),
  (16, .iconst 0, 1, .iconst 0, 0),
  (17, .ireturn, 1, .ireturn, 0)]
def q_m31 : q_MI := (⟨"SisterCount$Town", "hasAsk", "(I)Z"⟩, prog_10_method_7_code, 2, (some .boolean), q_c31, (0, 0, 1, 0), (3111, 3109, 3110, 1004))
def q_c32 : List q_I := [(0, .aload_n 0, 1, .aload 0, 0),
  (1, .getfield 28, 3, .getfield 578, 2071),
  (4, .iload_n 1, 1, .iload 1, 0),
  (5, .invokevirtual 113, 3, .invokevirtual 23, 3052),
  (8, .ifCond .eq 14, 3, .ifCond .eq 14, 0),
  (22, .bipush (-2), 2, .iconst (-2), 0),
  (24, .ireturn, 1, .ireturn, 0)]
def q_m32 : q_MI := (⟨"SisterCount", "answer", "(II)I"⟩, prog_1_method_10_code, 3, (some .int), q_c32, (1, 21, 2, 0), (3127, 3125, 3126, 1001))
def q_c33 : List q_I := [(0, .aload_n 0, 1, .aload 0, 0),
  (1, .getfield 28, 3, .getfield 578, 2071),
  (4, .invokevirtual 150, 3, .invokevirtual 29, 3099),
  (7, .ifCond .eq 10, 3, .ifCond .eq 10, 0),
  (17, .bipush (-2), 2, .iconst (-2), 0),
  (19, .ireturn, 1, .ireturn, 0)]
def q_m33 : q_MI := (⟨"SisterCount", "tale", "(I)I"⟩, prog_1_method_11_code, 2, (some .int), q_c33, (1, 20, 1, 0), (3137, 3135, 3136, 1001))
def q_c34 : List q_I := [(0, .iload_n 0, 1, .iload 0, 0),
  (1, .iload_n 1, 1, .iload 1, 0),
  (2, .ishr, 1, .ishr, 0),
  (3, .iconst 1, 1, .iconst 1, 0),
  (4, .iand, 1, .iand, 0),
  (5, .iconst 1, 1, .iconst 1, 0),
  (6, .if_icmp .ne 7, 3, .if_icmp .ne 7, 0),
  (13, .iconst 0, 1, .iconst 0, 0),
  (14, .ireturn, 1, .ireturn, 0)]
def q_m34 : q_MI := (⟨"SisterCount", "isIn", "(II)Z"⟩, prog_1_method_81_code, 2, (some .boolean), q_c34, (0, 0, 2, 1), (3147, 3146, 0, 1001))
def q_c35 : List q_I := [(0, .aload_n 0, 1, .aload 0, 0),
  (1, .getfield 28, 3, .getfield 578, 2071),
  (4, .invokevirtual 150, 3, .invokevirtual 29, 3099),
  (7, .ifCond .eq 10, 3, .ifCond .eq 10, 0),
  (17, .bipush (-2), 2, .iconst (-2), 0),
  (19, .ireturn, 1, .ireturn, 0)]
def q_m35 : q_MI := (⟨"SisterCount", "are", "(I)I"⟩, prog_1_method_12_code, 2, (some .int), q_c35, (1, 20, 1, 0), (3155, 3153, 3154, 1001))
def q_c36 : List q_I := [(0, .aload_n 0, 1, .aload 0, 0),
  (1, .getfield 28, 3, .getfield 578, 2071),
  (4, .iload_n 1, 1, .iload 1, 0),
  (5, .invokevirtual 157, 3, .invokevirtual 31, 3108),
  (8, .ifCond .eq 10, 3, .ifCond .eq 10, 0),
  (18, .ldc2_w 181, 3, .jsr_w (-2), 3167),
  (21, .lreturn, 1, .lreturn, 0)]
def q_m36 : q_MI := (⟨"SisterCount", "seems", "(II)J"⟩, prog_1_method_13_code, 7, (some .long), q_c36, (1, 21, 2, 0), (3163, 3161, 3162, 1001))
def q_c37 : List q_I := [(0, .iload_n 0, 1, .iload 0, 0),
  (1, .ifCond .eq 8, 3, .ifCond .eq 8, 0),
  (4, .iload_n 0, 1, .iload 0, 0),
  (5, .iconst 1, 1, .iconst 1, 0),
  (6, .if_icmp .ne 7, 3, .if_icmp .ne 7, 0),
  (9, .iconst 1, 1, .iconst 1, 0),
  (10, .goto 4, 3, .goto 4, 0),
  (13, .iconst 0, 1, .iconst 0, 0),
  (14, .ireturn, 1, .ireturn, 0)]
def q_m37 : q_MI := (⟨"SisterCount", "isEither", "(I)Z"⟩, prog_1_method_76_code, 1, (some .boolean), q_c37, (0, 0, 1, 1), (3166, 3165, 0, 1001))
def q_c38 : List q_I := [(0, .aload_n 0, 1, .aload 0, 0),
  (1, .getfield 28, 3, .getfield 578, 2071),
  (4, .iload_n 1, 1, .iload 1, 0),
  (5, .invokevirtual 157, 3, .invokevirtual 31, 3108),
  (8, .ifCond .eq 10, 3, .ifCond .eq 10, 0),
  (18, .ldc2_w 181, 3, .jsr_w (-2), 3167),
  (21, .lreturn, 1, .lreturn, 0)]
def q_m38 : q_MI := (⟨"SisterCount", "weighed", "(II)J"⟩, prog_1_method_14_code, 9, (some .long), q_c38, (1, 21, 2, 0), (3185, 3183, 3184, 1001))
def q_c39 : List q_I := [(0, .aload_n 0, 1, .aload 0, 0),
  (1, .getfield 28, 3, .getfield 578, 2071),
  (4, .invokevirtual 150, 3, .invokevirtual 29, 3099),
  (7, .ifCond .eq 17, 3, .ifCond .eq 17, 0),
  (24, .ldc2_w 181, 3, .jsr_w (-2), 3167),
  (27, .lreturn, 1, .lreturn, 0)]
def q_m39 : q_MI := (⟨"SisterCount", "mean", "(II)J"⟩, prog_1_method_15_code, 3, (some .long), q_c39, (1, 20, 2, 0), (3190, 3188, 3189, 1001))
def q_c40 : List q_I := [(0, .aload_n 0, 1, .aload 0, 0),
  (1, .getfield 28, 3, .getfield 578, 2071),
  (4, .iload_n 1, 1, .iload 1, 0),
  (5, .invokevirtual 136, 3, .invokevirtual 25, 3060),
  (8, .ifCond .eq 10, 3, .ifCond .eq 10, 0),
  (18, .ldc2_w 181, 3, .jsr_w (-2), 3167),
  (21, .lreturn, 1, .lreturn, 0)]
def q_m40 : q_MI := (⟨"SisterCount", "age", "(II)J"⟩, prog_1_method_16_code, 4, (some .long), q_c40, (1, 21, 2, 0), (3194, 3192, 3193, 1001))
def q_c41 : List q_I := [(0, .aload_n 0, 1, .aload 0, 0),
  (1, .getfield 28, 3, .getfield 578, 2071),
  (4, .iload_n 1, 1, .iload 1, 0),
  (5, .invokevirtual 136, 3, .invokevirtual 25, 3060),
  (8, .ifCond .eq 10, 3, .ifCond .eq 10, 0),
  (18, .bipush (-2), 2, .iconst (-2), 0),
  (20, .ireturn, 1, .ireturn, 0)]
def q_m41 : q_MI := (⟨"SisterCount", "share", "(II)I"⟩, prog_1_method_17_code, 4, (some .int), q_c41, (1, 21, 2, 0), (3202, 3200, 3201, 1001))
def q_c42 : List q_I := [(0, .aload_n 0, 1, .aload 0, 0),
  (1, .getfield 28, 3, .getfield 578, 2071),
  (4, .iload_n 1, 1, .iload 1, 0),
  (5, .invokevirtual 113, 3, .invokevirtual 23, 3052),
  (8, .ifCond .eq 21, 3, .ifCond .eq 21, 0),
  (29, .bipush (-2), 2, .iconst (-2), 0),
  (31, .ireturn, 1, .ireturn, 0)]
def q_m42 : q_MI := (⟨"SisterCount", "less", "(II)I"⟩, prog_1_method_18_code, 4, (some .int), q_c42, (1, 21, 2, 0), (3206, 3204, 3205, 1001))
def q_c43 : List q_I := [(0, .aload_n 0, 1, .aload 0, 0),
  (1, .getfield 28, 3, .getfield 578, 2071),
  (4, .iload_n 1, 1, .iload 1, 0),
  (5, .invokevirtual 113, 3, .invokevirtual 23, 3052),
  (8, .ifCond .eq 21, 3, .ifCond .eq 21, 0),
  (29, .ldc 207, 2, .sipush (-1000000), 3211),
  (31, .ireturn, 1, .ireturn, 0)]
def q_m43 : q_MI := (⟨"SisterCount", "changed", "(III)I"⟩, prog_1_method_19_code, 7, (some .int), q_c43, (1, 21, 3, 0), (3210, 3208, 3209, 1001))
def q_c44 : List q_I := [(0, .aload_n 0, 1, .aload 0, 0),
  (1, .getfield 28, 3, .getfield 578, 2071),
  (4, .invokevirtual 150, 3, .invokevirtual 29, 3099),
  (7, .ifCond .eq 12, 3, .ifCond .eq 12, 0),
  (19, .bipush (-2), 2, .iconst (-2), 0),
  (21, .ireturn, 1, .ireturn, 0)]
def q_m44 : q_MI := (⟨"SisterCount", "bread", "(I)I"⟩, prog_1_method_20_code, 5, (some .int), q_c44, (1, 20, 1, 0), (3219, 3217, 3218, 1001))
def q_c45 : List q_I := [(0, .aload_n 0, 1, .aload 0, 0),
  (1, .getfield 28, 3, .getfield 578, 2071),
  (4, .invokevirtual 150, 3, .invokevirtual 29, 3099),
  (7, .ifCond .eq 10, 3, .ifCond .eq 10, 0),
  (17, .bipush (-2), 2, .iconst (-2), 0),
  (19, .ireturn, 1, .ireturn, 0)]
def q_m45 : q_MI := (⟨"SisterCount", "census", "(I)I"⟩, prog_1_method_21_code, 4, (some .int), q_c45, (1, 20, 1, 0), (4003, 4001, 4002, 1001))
def q_c46 : List q_I := [(0, .aload_n 0, 1, .aload 0, 0),
  (1, .getfield 28, 3, .getfield 578, 2071),
  (4, .invokevirtual 150, 3, .invokevirtual 29, 3099),
  (7, .ifCond .eq 10, 3, .ifCond .eq 10, 0),
  (17, .bipush (-2), 2, .iconst (-2), 0),
  (19, .ireturn, 1, .ireturn, 0)]
def q_m46 : q_MI := (⟨"SisterCount", "off", "(I)I"⟩, prog_1_method_22_code, 6, (some .int), q_c46, (1, 20, 1, 0), (4011, 4009, 4010, 1001))
def q_c47 : List q_I := [(0, .aload_n 0, 1, .aload 0, 0),
  (1, .getfield 28, 3, .getfield 578, 2071),
  (4, .invokevirtual 150, 3, .invokevirtual 29, 3099),
  (7, .ifCond .eq 27, 3, .ifCond .eq 27, 0),
  (34, .bipush (-2), 2, .iconst (-2), 0),
  (36, .ireturn, 1, .ireturn, 0)]
def q_m47 : q_MI := (⟨"SisterCount", "panel", "(III)I"⟩, prog_1_method_23_code, 5, (some .int), q_c47, (1, 20, 3, 0), (4018, 4016, 4017, 1001))
def q_c48 : List q_I := [(0, .aload_n 0, 1, .aload 0, 0),
  (1, .getfield 28, 3, .getfield 578, 2071),
  (4, .invokevirtual 150, 3, .invokevirtual 29, 3099),
  (7, .ifCond .eq 10, 3, .ifCond .eq 10, 0),
  (17, .bipush (-2), 2, .iconst (-2), 0),
  (19, .ireturn, 1, .ireturn, 0)]
def q_m48 : q_MI := (⟨"SisterCount", "just", "(I)I"⟩, prog_1_method_24_code, 3, (some .int), q_c48, (1, 20, 1, 0), (4057, 4055, 4056, 1001))
def q_c49 : List q_I := [(0, .aload_n 0, 1, .aload 0, 0),
  (1, .getfield 28, 3, .getfield 578, 2071),
  (4, .invokevirtual 150, 3, .invokevirtual 29, 3099),
  (7, .ifCond .ne 6, 3, .ifCond .ne 6, 0),
  (10, .bipush (-2), 2, .iconst (-2), 0),
  (12, .ireturn, 1, .ireturn, 0)]
def q_m49 : q_MI := (⟨"SisterCount", "unseen", "()I"⟩, prog_1_method_25_code, 3, (some .int), q_c49, (1, 20, 0, 0), (4061, 4059, 4060, 1001))
def q_c50 : List q_I := [(0, .aload_n 0, 1, .aload 0, 0),
  (1, .getfield 28, 3, .getfield 578, 2071),
  (4, .iload_n 1, 1, .iload 1, 0),
  (5, .invokevirtual 136, 3, .invokevirtual 25, 3060),
  (8, .ifCond .ne 6, 3, .ifCond .ne 6, 0),
  (11, .bipush (-2), 2, .iconst (-2), 0),
  (13, .ireturn, 1, .ireturn, 0)]
def q_m50 : q_MI := (⟨"SisterCount", "comes", "(I)I"⟩, prog_1_method_26_code, 3, (some .int), q_c50, (1, 21, 1, 0), (4065, 4063, 4064, 1001))
def q_c51 : List q_I := [(0, .aload_n 0, 1, .aload 0, 0),
  (1, .getfield 28, 3, .getfield 578, 2071),
  (4, .invokevirtual 150, 3, .invokevirtual 29, 3099),
  (7, .ifCond .eq 10, 3, .ifCond .eq 10, 0),
  (17, .bipush (-2), 2, .iconst (-2), 0),
  (19, .ireturn, 1, .ireturn, 0)]
def q_m51 : q_MI := (⟨"SisterCount", "best", "(I)I"⟩, prog_1_method_27_code, 6, (some .int), q_c51, (1, 20, 1, 0), (4078, 4076, 4077, 1001))
def q_c52 : List q_I := [(0, .aload_n 0, 1, .aload 0, 0),
  (1, .getfield 28, 3, .getfield 578, 2071),
  (4, .invokevirtual 150, 3, .invokevirtual 29, 3099),
  (7, .ifCond .eq 13, 3, .ifCond .eq 13, 0),
  (20, .bipush (-2), 2, .iconst (-2), 0),
  (22, .ireturn, 1, .ireturn, 0)]
def q_m52 : q_MI := (⟨"SisterCount", "years", "(I)I"⟩, prog_1_method_28_code, 2, (some .int), q_c52, (1, 20, 1, 0), (4082, 4080, 4081, 1001))
def q_c53 : List q_I := [(0, .aload_n 0, 1, .aload 0, 0),
  (1, .getfield 28, 3, .getfield 578, 2071),
  (4, .invokevirtual 150, 3, .invokevirtual 29, 3099),
  (7, .ifCond .eq 13, 3, .ifCond .eq 13, 0),
  (20, .bipush (-2), 2, .iconst (-2), 0),
  (22, .ireturn, 1, .ireturn, 0)]
def q_m53 : q_MI := (⟨"SisterCount", "later", "(I)I"⟩, prog_1_method_29_code, 4, (some .int), q_c53, (1, 20, 1, 0), (4098, 4096, 4097, 1001))
def q_c54 : List q_I := [(0, .aload_n 0, 1, .aload 0, 0),
  (1, .getfield 28, 3, .getfield 578, 2071),
  (4, .invokevirtual 150, 3, .invokevirtual 29, 3099),
  (7, .ifCond .ne 6, 3, .ifCond .ne 6, 0),
  (10, .bipush (-2), 2, .iconst (-2), 0),
  (12, .ireturn, 1, .ireturn, 0)]
def q_m54 : q_MI := (⟨"SisterCount", "school", "()I"⟩, prog_1_method_30_code, 5, (some .int), q_c54, (1, 20, 0, 0), (4103, 4101, 4102, 1001))
def q_c55 : List q_I := [(0, .aload_n 0, 1, .aload 0, 0),
  (1, .getfield 28, 3, .getfield 578, 2071),
  (4, .invokevirtual 150, 3, .invokevirtual 29, 3099),
  (7, .ifCond .ne 6, 3, .ifCond .ne 6, 0),
  (10, .bipush (-2), 2, .iconst (-2), 0),
  (12, .ireturn, 1, .ireturn, 0)]
def q_m55 : q_MI := (⟨"SisterCount", "heavy", "()I"⟩, prog_1_method_31_code, 4, (some .int), q_c55, (1, 20, 0, 0), (4108, 4106, 4107, 1001))
def q_c56 : List q_I := [(0, .aload_n 0, 1, .aload 0, 0),
  (1, .getfield 28, 3, .getfield 578, 2071),
  (4, .invokevirtual 150, 3, .invokevirtual 29, 3099),
  (7, .ifCond .ne 6, 3, .ifCond .ne 6, 0),
  (10, .bipush (-2), 2, .iconst (-2), 0),
  (12, .ireturn, 1, .ireturn, 0)]
def q_m56 : q_MI := (⟨"SisterCount", "only", "()I"⟩, prog_1_method_32_code, 3, (some .int), q_c56, (1, 20, 0, 0), (4112, 4110, 4111, 1001))
def q_c57 : List q_I := [(0, .aload_n 0, 1, .aload 0, 0),
  (1, .getfield 28, 3, .getfield 578, 2071),
  (4, .invokevirtual 150, 3, .invokevirtual 29, 3099),
  (7, .ifCond .eq 10, 3, .ifCond .eq 10, 0),
  (17, .bipush (-2), 2, .iconst (-2), 0),
  (19, .ireturn, 1, .ireturn, 0)]
def q_m57 : q_MI := (⟨"SisterCount", "eldest", "(I)I"⟩, prog_1_method_33_code, 4, (some .int), q_c57, (1, 20, 1, 0), (4116, 4114, 4115, 1001))
def q_c58 : List q_I := [(0, .aload_n 0, 1, .aload 0, 0),
  (1, .getfield 28, 3, .getfield 578, 2071),
  (4, .iload_n 1, 1, .iload 1, 0),
  (5, .invokevirtual 136, 3, .invokevirtual 25, 3060),
  (8, .ifCond .ne 6, 3, .ifCond .ne 6, 0),
  (11, .bipush (-2), 2, .iconst (-2), 0),
  (13, .ireturn, 1, .ireturn, 0)]
def q_m58 : q_MI := (⟨"SisterCount", "spread", "(I)I"⟩, prog_1_method_34_code, 5, (some .int), q_c58, (1, 21, 1, 0), (4121, 4119, 4120, 1001))
def q_c59 : List q_I := [(0, .aload_n 0, 1, .aload 0, 0),
  (1, .getfield 28, 3, .getfield 578, 2071),
  (4, .iload_n 1, 1, .iload 1, 0),
  (5, .invokevirtual 113, 3, .invokevirtual 23, 3052),
  (8, .ifCond .ne 6, 3, .ifCond .ne 6, 0),
  (11, .bipush (-2), 2, .iconst (-2), 0),
  (13, .ireturn, 1, .ireturn, 0)]
def q_m59 : q_MI := (⟨"SisterCount", "twins", "(I)I"⟩, prog_1_method_35_code, 4, (some .int), q_c59, (1, 21, 1, 0), (4127, 4125, 4126, 1001))
def q_c60 : List q_I := [(0, .aload_n 0, 1, .aload 0, 0),
  (1, .getfield 28, 3, .getfield 578, 2071),
  (4, .iload_n 1, 1, .iload 1, 0),
  (5, .invokevirtual 113, 3, .invokevirtual 23, 3052),
  (8, .ifCond .eq 14, 3, .ifCond .eq 14, 0),
  (22, .bipush (-2), 2, .iconst (-2), 0),
  (24, .ireturn, 1, .ireturn, 0)]
def q_m60 : q_MI := (⟨"SisterCount", "hidden", "(II)I"⟩, prog_1_method_36_code, 5, (some .int), q_c60, (1, 21, 2, 0), (4132, 4130, 4131, 1001))
def q_c61 : List q_I := [(0, .aload_n 0, 1, .aload 0, 0),
  (1, .getfield 28, 3, .getfield 578, 2071),
  (4, .invokevirtual 150, 3, .invokevirtual 29, 3099),
  (7, .ifCond .eq 10, 3, .ifCond .eq 10, 0),
  (17, .bipush (-2), 2, .iconst (-2), 0),
  (19, .ireturn, 1, .ireturn, 0)]
def q_m61 : q_MI := (⟨"SisterCount", "slips", "(I)I"⟩, prog_1_method_37_code, 7, (some .int), q_c61, (1, 20, 1, 0), (4137, 4135, 4136, 1001))
def q_c62 : List q_I := [(0, .aload_n 0, 1, .aload 0, 0),
  (1, .getfield 28, 3, .getfield 578, 2071),
  (4, .iload_n 1, 1, .iload 1, 0),
  (5, .invokevirtual 157, 3, .invokevirtual 31, 3108),
  (8, .ifCond .ne 6, 3, .ifCond .ne 6, 0),
  (11, .bipush (-2), 2, .iconst (-2), 0),
  (13, .ireturn, 1, .ireturn, 0)]
def q_m62 : q_MI := (⟨"SisterCount", "kinds", "(I)I"⟩, prog_1_method_38_code, 2, (some .int), q_c62, (1, 21, 1, 0), (4145, 4143, 4144, 1001))
def q_c63 : List q_I := [(0, .aload_n 0, 1, .aload 0, 0),
  (1, .getfield 28, 3, .getfield 578, 2071),
  (4, .iload_n 1, 1, .iload 1, 0),
  (5, .invokevirtual 157, 3, .invokevirtual 31, 3108),
  (8, .ifCond .ne 6, 3, .ifCond .ne 6, 0),
  (11, .bipush (-2), 2, .iconst (-2), 0),
  (13, .ireturn, 1, .ireturn, 0)]
def q_m63 : q_MI := (⟨"SisterCount", "crowd", "(I)I"⟩, prog_1_method_39_code, 2, (some .int), q_c63, (1, 21, 1, 0), (4168, 4166, 4167, 1001))
def q_c64 : List q_I := [(0, .aload_n 0, 1, .aload 0, 0),
  (1, .getfield 28, 3, .getfield 578, 2071),
  (4, .invokevirtual 150, 3, .invokevirtual 29, 3099),
  (7, .ifCond .ne 6, 3, .ifCond .ne 6, 0),
  (10, .bipush (-2), 2, .iconst (-2), 0),
  (12, .ireturn, 1, .ireturn, 0)]
def q_m64 : q_MI := (⟨"SisterCount", "next", "()I"⟩, prog_1_method_40_code, 5, (some .int), q_c64, (1, 20, 0, 0), (4177, 4175, 4176, 1001))
def q_c65 : List q_I := [(0, .aload_n 0, 1, .aload 0, 0),
  (1, .getfield 28, 3, .getfield 578, 2071),
  (4, .invokevirtual 150, 3, .invokevirtual 29, 3099),
  (7, .ifCond .eq 18, 3, .ifCond .eq 18, 0),
  (25, .bipush (-2), 2, .iconst (-2), 0),
  (27, .ireturn, 1, .ireturn, 0)]
def q_m65 : q_MI := (⟨"SisterCount", "tells", "(I)I"⟩, prog_1_method_41_code, 2, (some .int), q_c65, (1, 20, 1, 0), (4181, 4179, 4180, 1001))
def q_c66 : List q_I := [(0, .aload_n 0, 1, .aload 0, 0),
  (1, .getfield 28, 3, .getfield 578, 2071),
  (4, .invokevirtual 150, 3, .invokevirtual 29, 3099),
  (7, .ifCond .eq 10, 3, .ifCond .eq 10, 0),
  (17, .bipush (-2), 2, .iconst (-2), 0),
  (19, .ireturn, 1, .ireturn, 0)]
def q_m66 : q_MI := (⟨"SisterCount", "fewest", "(I)I"⟩, prog_1_method_42_code, 5, (some .int), q_c66, (1, 20, 1, 0), (4202, 4200, 4201, 1001))
def q_c67 : List q_I := [(0, .aload_n 0, 1, .aload 0, 0),
  (1, .getfield 28, 3, .getfield 578, 2071),
  (4, .iload_n 1, 1, .iload 1, 0),
  (5, .invokevirtual 113, 3, .invokevirtual 23, 3052),
  (8, .ifCond .ne 6, 3, .ifCond .ne 6, 0),
  (11, .bipush (-2), 2, .iconst (-2), 0),
  (13, .ireturn, 1, .ireturn, 0)]
def q_m67 : q_MI := (⟨"SisterCount", "like", "(I)I"⟩, prog_1_method_43_code, 2, (some .int), q_c67, (1, 21, 1, 0), (4206, 4204, 4205, 1001))
def q_c68 : List q_I := [(0, .aload_n 0, 1, .aload 0, 0),
  (1, .getfield 28, 3, .getfield 578, 2071),
  (4, .invokevirtual 150, 3, .invokevirtual 29, 3099),
  (7, .ifCond .eq 18, 3, .ifCond .eq 18, 0),
  (25, .bipush (-2), 2, .iconst (-2), 0),
  (27, .ireturn, 1, .ireturn, 0)]
def q_m68 : q_MI := (⟨"SisterCount", "most", "(I)I"⟩, prog_1_method_44_code, 4, (some .int), q_c68, (1, 20, 1, 0), (4215, 4213, 4214, 1001))
def q_c69 : List q_I := [(0, .aload_n 0, 1, .aload 0, 0),
  (1, .getfield 28, 3, .getfield 578, 2071),
  (4, .iload_n 1, 1, .iload 1, 0),
  (5, .invokevirtual 113, 3, .invokevirtual 23, 3052),
  (8, .ifCond .ne 6, 3, .ifCond .ne 6, 0),
  (11, .bipush (-2), 2, .iconst (-2), 0),
  (13, .ireturn, 1, .ireturn, 0)]
def q_m69 : q_MI := (⟨"SisterCount", "fits", "(I)I"⟩, prog_1_method_45_code, 3, (some .int), q_c69, (1, 21, 1, 0), (4219, 4217, 4218, 1001))
def q_c70 : List q_I := [(0, .aload_n 0, 1, .aload 0, 0),
  (1, .getfield 28, 3, .getfield 578, 2071),
  (4, .invokevirtual 150, 3, .invokevirtual 29, 3099),
  (7, .ifCond .ne 6, 3, .ifCond .ne 6, 0),
  (10, .bipush (-2), 2, .iconst (-2), 0),
  (12, .ireturn, 1, .ireturn, 0)]
def q_m70 : q_MI := (⟨"SisterCount", "enough", "()I"⟩, prog_1_method_46_code, 5, (some .int), q_c70, (1, 20, 0, 0), (4227, 4225, 4226, 1001))
def q_c71 : List q_I := [(0, .aload_n 0, 1, .aload 0, 0),
  (1, .getfield 28, 3, .getfield 578, 2071),
  (4, .iload_n 1, 1, .iload 1, 0),
  (5, .invokevirtual 157, 3, .invokevirtual 31, 3108),
  (8, .ifCond .ne 6, 3, .ifCond .ne 6, 0),
  (11, .bipush (-2), 2, .iconst (-2), 0),
  (13, .ireturn, 1, .ireturn, 0)]
def q_m71 : q_MI := (⟨"SisterCount", "clash", "(I)I"⟩, prog_1_method_47_code, 5, (some .int), q_c71, (1, 21, 1, 0), (4231, 4229, 4230, 1001))
def q_c72 : List q_I := [(0, .aload_n 0, 1, .aload 0, 0),
  (1, .iload_n 1, 1, .iload 1, 0),
  (2, .invokevirtual 312, 3, .invokevirtual 73, 5001),
  (5, .istore_n 2, 1, .istore 2, 0),
  (6, .iload_n 2, 1, .iload 2, 0),
  (7, .ifCond .ge 7, 3, .ifCond .ge 7, 0),
  (10, .iload_n 2, 1, .iload 2, 0),
  (11, .goto 10, 3, .goto 10, 0),
  (21, .ireturn, 1, .ireturn, 0)]
def q_m72 : q_MI := (⟨"SisterCount", "least", "(I)I"⟩, prog_1_method_48_code, 3, (some .int), q_c72, (3, 64, 1, 0), (5000, 4238, 4239, 1001))
def q_c73 : List q_I := [(0, .aload_n 0, 1, .aload 0, 0),
  (1, .iload_n 1, 1, .iload 1, 0),
  (2, .invokevirtual 423, 3, .invokevirtual 74, 5005),
  (5, .istore_n 2, 1, .istore 2, 0),
  (6, .iload_n 2, 1, .iload 2, 0),
  (7, .ifCond .ge 5, 3, .ifCond .ge 5, 0),
  (10, .iload_n 2, 1, .iload 2, 0),
  (11, .ireturn, 1, .ireturn, 0)]
def q_m73 : q_MI := (⟨"SisterCount", "loadTold", "(I)I"⟩, prog_1_method_85_code, 3, (some .int), q_c73, (2, 42, 1, 0), (5004, 5003, 23, 1001))
def q_c74 : List q_I := [(0, .iload_n 1, 1, .iload 1, 0),
  (1, .invokestatic 388, 3, .invokestatic 75, 5009),
  (4, .ifCond .eq 13, 3, .ifCond .eq 13, 0),
  (7, .aload_n 0, 1, .aload 0, 0),
  (8, .getfield 28, 3, .getfield 578, 2071),
  (11, .invokevirtual 150, 3, .invokevirtual 29, 3099),
  (14, .ifCond .ne 6, 3, .ifCond .ne 6, 0),
  (17, .bipush (-2), 2, .iconst (-2), 0),
  (19, .ireturn, 1, .ireturn, 0)]
def q_m74 : q_MI := (⟨"SisterCount", "threesOf", "(I)I"⟩, prog_1_method_84_code, 3, (some .int), q_c74, (1, 20, 1, 0), (5008, 5007, 24, 1001))
def q_c75 : List q_I := [(0, .iload_n 0, 1, .iload 0, 0),
  (1, .ifCond .lt 12, 3, .ifCond .lt 12, 0),
  (4, .iload_n 0, 1, .iload 0, 0),
  (5, .iconst 4, 1, .iconst 4, 0),
  (6, .if_icmp .ge 7, 3, .if_icmp .ge 7, 0),
  (9, .iconst 1, 1, .iconst 1, 0),
  (10, .goto 4, 3, .goto 4, 0),
  (13, .iconst 0, 1, .iconst 0, 0),
  (14, .ireturn, 1, .ireturn, 0)]
def q_m75 : q_MI := (⟨"SisterCount", "isSlot", "(I)Z"⟩, prog_1_method_79_code, 1, (some .boolean), q_c75, (0, 0, 1, 1), (5011, 5010, 0, 1001))
def q_c76 : List q_I := [(0, .aload_n 0, 1, .aload 0, 0),
  (1, .getfield 19, 3, .getfield 386, 2058),
  (4, .iconst (-1), 1, .iconst (-1), 0),
  (5, .if_icmp .eq 7, 3, .if_icmp .eq 7, 0),
  (12, .iconst 0, 1, .iconst 0, 0),
  (13, .ireturn, 1, .ireturn, 0)]
def q_m76 : q_MI := (⟨"SisterCount$Row", "exists", "()Z"⟩, prog_8_method_2_code, 1, (some .boolean), q_c76, (0, 0, 0, 0), (5015, 5013, 5014, 1010))
def q_c77 : List q_I := [(0, .aload_n 0, 1, .aload 0, 0),
  (1, .iload_n 1, 1, .iload 1, 0),
  (2, .invokevirtual 312, 3, .invokevirtual 73, 5001),
  (5, .ireturn, 1, .ireturn, 0)]
def q_m77 : q_MI := (⟨"SisterCount", "greatest", "(I)I"⟩, prog_1_method_49_code, 2, (some .int), q_c77, (3, 64, 1, 0), (5076, 5074, 5075, 1001))
def q_c78 : List q_I := [(0, .aload_n 0, 1, .aload 0, 0),
  (1, .iload_n 1, 1, .iload 1, 0),
  (2, .invokevirtual 312, 3, .invokevirtual 73, 5001),
  (5, .istore_n 2, 1, .istore 2, 0),
  (6, .iload_n 2, 1, .iload 2, 0),
  (7, .ifCond .ge 7, 3, .ifCond .ge 7, 0),
  (10, .iload_n 2, 1, .iload 2, 0),
  (11, .goto 10, 3, .goto 10, 0),
  (21, .ireturn, 1, .ireturn, 0)]
def q_m78 : q_MI := (⟨"SisterCount", "joinings", "(I)I"⟩, prog_1_method_50_code, 3, (some .int), q_c78, (3, 64, 1, 0), (5080, 5078, 5079, 1001))
def q_c79 : List q_I := [(0, .aload_n 0, 1, .aload 0, 0),
  (1, .iload_n 1, 1, .iload 1, 0),
  (2, .invokevirtual 312, 3, .invokevirtual 73, 5001),
  (5, .istore_n 3, 1, .istore 3, 0),
  (6, .iload_n 3, 1, .iload 3, 0),
  (7, .ifCond .ge 7, 3, .ifCond .ge 7, 0),
  (10, .iload_n 3, 1, .iload 3, 0),
  (11, .goto 11, 3, .goto 11, 0),
  (22, .ireturn, 1, .ireturn, 0)]
def q_m79 : q_MI := (⟨"SisterCount", "by", "(II)I"⟩, prog_1_method_51_code, 4, (some .int), q_c79, (3, 64, 2, 0), (5088, 5086, 5087, 1001))
def q_c80 : List q_I := [(0, .iload_n 2, 1, .iload 2, 0),
  (1, .invokestatic 178, 3, .invokestatic 37, 3164),
  (4, .ifCond .ne 6, 3, .ifCond .ne 6, 0),
  (7, .bipush (-2), 2, .iconst (-2), 0),
  (9, .ireturn, 1, .ireturn, 0),
  (10, .aload_n 0, 1, .aload 0, 0),
  (11, .iload_n 1, 1, .iload 1, 0),
  (12, .invokevirtual 312, 3, .invokevirtual 73, 5001),
  (15, .istore_n 3, 1, .istore 3, 0),
  (16, .iload_n 3, 1, .iload 3, 0),
  (17, .ifCond .ge 7, 3, .ifCond .ge 7, 0),
  (20, .iload_n 3, 1, .iload 3, 0),
  (21, .goto 24, 3, .goto 24, 0),
  (45, .ireturn, 1, .ireturn, 0)]
def q_m80 : q_MI := (⟨"SisterCount", "likely", "(II)I"⟩, prog_1_method_52_code, 4, (some .int), q_c80, (3, 64, 2, 0), (5096, 5094, 5095, 1001))
def q_c81 : List q_I := [(0, .aload_n 0, 1, .aload 0, 0),
  (1, .iload_n 1, 1, .iload 1, 0),
  (2, .invokevirtual 312, 3, .invokevirtual 73, 5001),
  (5, .istore 4, 2, .istore 4, 0),
  (7, .iload 4, 2, .iload 4, 0),
  (9, .ifCond .ge 6, 3, .ifCond .ge 6, 0),
  (12, .iload 4, 2, .iload 4, 0),
  (14, .ireturn, 1, .ireturn, 0)]
def q_m81 : q_MI := (⟨"SisterCount", "joined", "(III)I"⟩, prog_1_method_53_code, 5, (some .int), q_c81, (3, 64, 3, 0), (5104, 5102, 5103, 1001))
def q_c82 : List q_I := [(0, .iload_n 2, 1, .iload 2, 0),
  (1, .invokestatic 178, 3, .invokestatic 37, 3164),
  (4, .ifCond .ne 6, 3, .ifCond .ne 6, 0),
  (7, .bipush (-2), 2, .iconst (-2), 0),
  (9, .ireturn, 1, .ireturn, 0),
  (10, .aload_n 0, 1, .aload 0, 0),
  (11, .iload_n 1, 1, .iload 1, 0),
  (12, .invokevirtual 312, 3, .invokevirtual 73, 5001),
  (15, .istore_n 3, 1, .istore 3, 0),
  (16, .iload_n 3, 1, .iload 3, 0),
  (17, .ifCond .ge 5, 3, .ifCond .ge 5, 0),
  (20, .iload_n 3, 1, .iload 3, 0),
  (21, .ireturn, 1, .ireturn, 0)]
def q_m82 : q_MI := (⟨"SisterCount", "daughters", "(II)I"⟩, prog_1_method_54_code, 4, (some .int), q_c82, (3, 64, 2, 0), (5120, 5118, 5119, 1001))
def q_c83 : List q_I := [(0, .aload_n 0, 1, .aload 0, 0),
  (1, .iload_n 1, 1, .iload 1, 0),
  (2, .invokevirtual 312, 3, .invokevirtual 73, 5001),
  (5, .istore_n 2, 1, .istore 2, 0),
  (6, .iload_n 2, 1, .iload 2, 0),
  (7, .ifCond .ge 7, 3, .ifCond .ge 7, 0),
  (10, .iload_n 2, 1, .iload 2, 0),
  (11, .goto 10, 3, .goto 10, 0),
  (21, .ireturn, 1, .ireturn, 0)]
def q_m83 : q_MI := (⟨"SisterCount", "sorts", "(I)I"⟩, prog_1_method_55_code, 3, (some .int), q_c83, (3, 64, 1, 0), (5136, 5134, 5135, 1001))
def q_c84 : List q_I := [(0, .aload_n 0, 1, .aload 0, 0),
  (1, .iload_n 1, 1, .iload 1, 0),
  (2, .invokevirtual 339, 3, .invokevirtual 85, 5145),
  (5, .istore_n 2, 1, .istore 2, 0),
  (6, .iload_n 2, 1, .iload 2, 0),
  (7, .ifCond .ge 5, 3, .ifCond .ge 5, 0),
  (10, .iload_n 2, 1, .iload 2, 0),
  (11, .ireturn, 1, .ireturn, 0)]
def q_m84 : q_MI := (⟨"SisterCount", "wrong", "(I)I"⟩, prog_1_method_56_code, 5, (some .int), q_c84, (3, 69, 1, 0), (5144, 5142, 5143, 1001))
def q_c85 : List q_I := [(0, .aload_n 0, 1, .aload 0, 0),
  (1, .iload_n 1, 1, .iload 1, 0),
  (2, .invokevirtual 423, 3, .invokevirtual 74, 5005),
  (5, .istore_n 2, 1, .istore 2, 0),
  (6, .iconst 0, 1, .iconst 0, 0),
  (7, .istore_n 3, 1, .istore 3, 0),
  (8, .iload_n 3, 1, .iload 3, 0),
  (9, .iload_n 2, 1, .iload 2, 0),
  (10, .if_icmp .ge 86, 3, .if_icmp .ge 86, 0),
  (96, .iload_n 2, 1, .iload 2, 0),
  (97, .ireturn, 1, .ireturn, 0)]
def q_m85 : q_MI := (⟨"SisterCount", "lookAtHeard", "(I)I"⟩, prog_1_method_86_code, 8, (some .int), q_c85, (2, 42, 1, 0), (5148, 5147, 37, 1001))
def q_c86 : List q_I := [(0, .aload_n 0, 1, .aload 0, 0),
  (1, .iload_n 1, 1, .iload 1, 0),
  (2, .invokevirtual 339, 3, .invokevirtual 85, 5145),
  (5, .istore_n 2, 1, .istore 2, 0),
  (6, .iload_n 2, 1, .iload 2, 0),
  (7, .ifCond .ge 5, 3, .ifCond .ge 5, 0),
  (10, .iload_n 2, 1, .iload 2, 0),
  (11, .ireturn, 1, .ireturn, 0)]
def q_m86 : q_MI := (⟨"SisterCount", "bold", "(I)I"⟩, prog_1_method_57_code, 7, (some .int), q_c86, (3, 69, 1, 0), (5156, 5154, 5155, 1001))
def q_c87 : List q_I := [(0, .aload_n 0, 1, .aload 0, 0),
  (1, .getfield 28, 3, .getfield 578, 2071),
  (4, .invokevirtual 150, 3, .invokevirtual 29, 3099),
  (7, .ifCond .eq 10, 3, .ifCond .eq 10, 0),
  (17, .bipush (-2), 2, .iconst (-2), 0),
  (19, .ireturn, 1, .ireturn, 0)]
def q_m87 : q_MI := (⟨"SisterCount", "marriages", "(I)I"⟩, prog_1_method_58_code, 2, (some .int), q_c87, (1, 20, 1, 0), (5160, 5158, 5159, 1001))
def q_c88 : List q_I := [(0, .aload_n 0, 1, .aload 0, 0),
  (1, .getfield 28, 3, .getfield 578, 2071),
  (4, .iload_n 1, 1, .iload 1, 0),
  (5, .invokevirtual 136, 3, .invokevirtual 25, 3060),
  (8, .ifCond .eq 26, 3, .ifCond .eq 26, 0),
  (34, .bipush (-2), 2, .iconst (-2), 0),
  (36, .ireturn, 1, .ireturn, 0)]
def q_m88 : q_MI := (⟨"SisterCount", "between", "(III)I"⟩, prog_1_method_59_code, 4, (some .int), q_c88, (1, 21, 3, 0), (5191, 5189, 5190, 1001))
def q_c89 : List q_I := [(0, .aload_n 0, 1, .aload 0, 0),
  (1, .getfield 28, 3, .getfield 578, 2071),
  (4, .iload_n 1, 1, .iload 1, 0),
  (5, .invokevirtual 113, 3, .invokevirtual 23, 3052),
  (8, .ifCond .eq 10, 3, .ifCond .eq 10, 0),
  (18, .bipush (-2), 2, .iconst (-2), 0),
  (20, .ireturn, 1, .ireturn, 0)]
def q_m89 : q_MI := (⟨"SisterCount", "suits", "(II)I"⟩, prog_1_method_60_code, 5, (some .int), q_c89, (1, 21, 2, 0), (5196, 5194, 5195, 1001))
def q_c90 : List q_I := [(0, .aload_n 0, 1, .aload 0, 0),
  (1, .getfield 28, 3, .getfield 578, 2071),
  (4, .iload_n 1, 1, .iload 1, 0),
  (5, .invokevirtual 113, 3, .invokevirtual 23, 3052),
  (8, .ifCond .eq 10, 3, .ifCond .eq 10, 0),
  (18, .bipush (-2), 2, .iconst (-2), 0),
  (20, .ireturn, 1, .ireturn, 0)]
def q_m90 : q_MI := (⟨"SisterCount", "sought", "(II)I"⟩, prog_1_method_61_code, 5, (some .int), q_c90, (1, 21, 2, 0), (5201, 5199, 5200, 1001))
def q_c91 : List q_I := [(0, .aload_n 0, 1, .aload 0, 0),
  (1, .getfield 28, 3, .getfield 578, 2071),
  (4, .iload_n 1, 1, .iload 1, 0),
  (5, .invokevirtual 136, 3, .invokevirtual 25, 3060),
  (8, .ifCond .eq 14, 3, .ifCond .eq 14, 0),
  (22, .bipush (-2), 2, .iconst (-2), 0),
  (24, .ireturn, 1, .ireturn, 0)]
def q_m91 : q_MI := (⟨"SisterCount", "heir", "(III)I"⟩, prog_1_method_62_code, 4, (some .int), q_c91, (1, 21, 3, 0), (5205, 5203, 5204, 1001))
def q_c92 : List q_I := [(0, .aload_n 0, 1, .aload 0, 0),
  (1, .getfield 28, 3, .getfield 578, 2071),
  (4, .iload_n 1, 1, .iload 1, 0),
  (5, .invokevirtual 113, 3, .invokevirtual 23, 3052),
  (8, .ifCond .eq 10, 3, .ifCond .eq 10, 0),
  (18, .bipush (-2), 2, .iconst (-2), 0),
  (20, .ireturn, 1, .ireturn, 0)]
def q_m92 : q_MI := (⟨"SisterCount", "place", "(II)I"⟩, prog_1_method_63_code, 3, (some .int), q_c92, (1, 21, 2, 0), (5224, 5222, 5223, 1001))
def q_c93 : List q_I := [(0, .aload_n 0, 1, .aload 0, 0),
  (1, .getfield 28, 3, .getfield 578, 2071),
  (4, .invokevirtual 150, 3, .invokevirtual 29, 3099),
  (7, .ifCond .eq 17, 3, .ifCond .eq 17, 0),
  (24, .bipush (-2), 2, .iconst (-2), 0),
  (26, .ireturn, 1, .ireturn, 0)]
def q_m93 : q_MI := (⟨"SisterCount", "quarrel", "(II)I"⟩, prog_1_method_64_code, 5, (some .int), q_c93, (1, 20, 2, 0), (5229, 5227, 5228, 1001))
def q_c94 : List q_I := [(0, .aload_n 0, 1, .aload 0, 0),
  (1, .getfield 28, 3, .getfield 578, 2071),
  (4, .iload_n 1, 1, .iload 1, 0),
  (5, .invokevirtual 136, 3, .invokevirtual 25, 3060),
  (8, .ifCond .eq 10, 3, .ifCond .eq 10, 0),
  (18, .bipush (-2), 2, .iconst (-2), 0),
  (20, .ireturn, 1, .ireturn, 0)]
def q_m94 : q_MI := (⟨"SisterCount", "beds", "(II)I"⟩, prog_1_method_65_code, 3, (some .int), q_c94, (1, 21, 2, 0), (5233, 5231, 5232, 1001))
def q_c95 : List q_I := [(0, .aload_n 0, 1, .aload 0, 0),
  (1, .getfield 28, 3, .getfield 578, 2071),
  (4, .iload_n 1, 1, .iload 1, 0),
  (5, .invokevirtual 136, 3, .invokevirtual 25, 3060),
  (8, .ifCond .eq 7, 3, .ifCond .eq 7, 0),
  (15, .bipush (-2), 2, .iconst (-2), 0),
  (17, .ireturn, 1, .ireturn, 0)]
def q_m95 : q_MI := (⟨"SisterCount", "squeeze", "(II)I"⟩, prog_1_method_66_code, 4, (some .int), q_c95, (1, 21, 2, 0), (6010, 6008, 6009, 1001))
def q_c96 : List q_I := [(0, .aload_n 0, 1, .aload 0, 0),
  (1, .getfield 28, 3, .getfield 578, 2071),
  (4, .invokevirtual 150, 3, .invokevirtual 29, 3099),
  (7, .ifCond .eq 20, 3, .ifCond .eq 20, 0),
  (27, .bipush (-2), 2, .iconst (-2), 0),
  (29, .ireturn, 1, .ireturn, 0)]
def q_m96 : q_MI := (⟨"SisterCount", "drawn", "(III)I"⟩, prog_1_method_67_code, 5, (some .int), q_c96, (1, 20, 3, 0), (6014, 6012, 6013, 1001))
def q_c97 : List q_I := [(0, .aload_n 0, 1, .aload 0, 0),
  (1, .getfield 28, 3, .getfield 578, 2071),
  (4, .iload 4, 2, .iload 4, 0),
  (6, .invokevirtual 136, 3, .invokevirtual 25, 3060),
  (9, .ifCond .eq 22, 3, .ifCond .eq 22, 0),
  (31, .bipush (-2), 2, .iconst (-2), 0),
  (33, .ireturn, 1, .ireturn, 0)]
def q_m97 : q_MI := (⟨"SisterCount", "seen", "(IIII)I"⟩, prog_1_method_68_code, 7, (some .int), q_c97, (1, 21, 4, 0), (6032, 6030, 6031, 1001))
def q_c98 : List q_I := [(0, .iload_n 1, 1, .iload 1, 0),
  (1, .tableswitch 135 0 9 #[55, 63, 71, 79, 87, 95, 106, 114, 122, 130], 55, .tableswitch 135 0 9 #[55, 63, 71, 79, 87, 95, 106, 114, 122, 130], 0),
  (56, .aload_n 0, 1, .aload 0, 0),
  (57, .getfield 28, 3, .getfield 578, 2071),
  (60, .getfield 254, 3, .getfield 513, 1086),
  (63, .ireturn, 1, .ireturn, 0),
  (64, .aload_n 0, 1, .aload 0, 0),
  (65, .getfield 28, 3, .getfield 578, 2071),
  (68, .getfield 257, 3, .getfield 514, 1089),
  (71, .ireturn, 1, .ireturn, 0),
  (72, .aload_n 0, 1, .aload 0, 0),
  (73, .getfield 28, 3, .getfield 578, 2071),
  (76, .getfield 190, 3, .getfield 515, 1092),
  (79, .ireturn, 1, .ireturn, 0),
  (80, .aload_n 0, 1, .aload 0, 0),
  (81, .getfield 28, 3, .getfield 578, 2071),
  (84, .getfield 251, 3, .getfield 516, 1099),
  (87, .ireturn, 1, .ireturn, 0),
  (88, .aload_n 0, 1, .aload 0, 0),
  (89, .getfield 28, 3, .getfield 578, 2071),
  (92, .getfield 294, 3, .getfield 517, 1103),
  (95, .ireturn, 1, .ireturn, 0),
  (96, .aload_n 0, 1, .aload 0, 0),
  (97, .getfield 28, 3, .getfield 578, 2071),
  (100, .invokevirtual 153, 3, .invokevirtual 26, 3103),
  (103, .invokestatic 183, 3, .invokestatic 27, 3168),
  (106, .ireturn, 1, .ireturn, 0),
  (107, .aload_n 0, 1, .aload 0, 0),
  (108, .getfield 28, 3, .getfield 578, 2071),
  (111, .getfield 107, 3, .getfield 512, 1083),
  (114, .ireturn, 1, .ireturn, 0),
  (115, .aload_n 0, 1, .aload 0, 0),
  (116, .getfield 10, 3, .getfield 576, 2069),
  (119, .getfield 95, 3, .getfield 449, 1038),
  (122, .ireturn, 1, .ireturn, 0),
  (123, .aload_n 0, 1, .aload 0, 0),
  (124, .getfield 28, 3, .getfield 578, 2071),
  (127, .getfield 382, 3, .getfield 518, 1105),
  (130, .ireturn, 1, .ireturn, 0),
  (131, .aload_n 0, 1, .aload 0, 0),
  (132, .invokevirtual 385, 3, .invokevirtual 99, 6037),
  (135, .ireturn, 1, .ireturn, 0),
  (136, .iconst (-1), 1, .iconst (-1), 0),
  (137, .ireturn, 1, .ireturn, 0)]
def q_m98 : q_MI := (⟨"SisterCount", "count", "(I)I"⟩, prog_1_method_69_code, 2, (some .int), q_c98, (2, 42, 1, 0), (6036, 6034, 6035, 1001))
def q_c99 : List q_I := [(0, .iconst 0, 1, .iconst 0, 0),
  (1, .istore_n 1, 1, .istore 1, 0),
  (2, .iconst 0, 1, .iconst 0, 0),
  (3, .istore_n 2, 1, .istore 2, 0),
  (4, .iload_n 2, 1, .iload 2, 0),
  (5, .iconst 4, 1, .iconst 4, 0),
  (6, .if_icmp .ge 24, 3, .if_icmp .ge 24, 0),
  (9, .aload_n 0, 1, .aload 0, 0),
  (10, .getfield 45, 3, .getfield 582, 2075),
  (13, .iload_n 2, 1, .iload 2, 0),
  (14, .aaload, 1, .aaload, 0),
  (15, .invokevirtual 394, 3, .invokevirtual 76, 5012),
  (18, .ifCond .eq 6, 3, .ifCond .eq 6, 0),
  (24, .iinc 2 1, 3, .iinc 2 1, 0),
  (27, .goto (-23), 3, .goto (-23), 0),
  (30, .iload_n 1, 1, .iload 1, 0),
  (31, .ireturn, 1, .ireturn, 0)]
def q_m99 : q_MI := (⟨"SisterCount", "slotsWithRows", "()I"⟩, prog_1_method_89_code, 3, (some .int), q_c99, (1, 20, 0, 0), (6040, 6039, 46, 1001))
def q_c100 : List q_I := [(0, .iload_n 1, 1, .iload 1, 0),
  (1, .ifCond .lt 8, 3, .ifCond .lt 8, 0),
  (4, .iload_n 1, 1, .iload 1, 0),
  (5, .iconst 3, 1, .iconst 3, 0),
  (6, .if_icmp .lt 6, 3, .if_icmp .lt 6, 0),
  (9, .bipush (-2), 2, .iconst (-2), 0),
  (11, .ireturn, 1, .ireturn, 0),
  (12, .aload_n 0, 1, .aload 0, 0),
  (13, .getfield 35, 3, .getfield 580, 2073),
  (16, .iload_n 1, 1, .iload 1, 0),
  (17, .aaload, 1, .aaload, 0),
  (18, .aload_n 0, 1, .aload 0, 0),
  (19, .getfield 28, 3, .getfield 578, 2071),
  (22, .invokevirtual 104, 3, .invokevirtual 20, 3037),
  (25, .aload_n 0, 1, .aload 0, 0),
  (26, .dup, 1, .dup, 0),
  (27, .getfield 39, 3, .getfield 581, 2074),
  (30, .iconst 1, 1, .iconst 1, 0),
  (31, .iload_n 1, 1, .iload 1, 0),
  (32, .ishl, 1, .ishl, 0),
  (33, .ior, 1, .ior, 0),
  (34, .putfield 39, 3, .putfield 581, 2074),
  (37, .iconst 0, 1, .iconst 0, 0),
  (38, .ireturn, 1, .ireturn, 0)]
def q_m100 : q_MI := (⟨"SisterCount", "image", "(I)I"⟩, prog_1_method_70_code, 2, (some .int), q_c100, (2, 47, 1, 0), (6044, 6042, 6043, 1001))
def q_c101 : List q_I := [(0, .iload_n 1, 1, .iload 1, 0),
  (1, .ifCond .lt 8, 3, .ifCond .lt 8, 0),
  (4, .iload_n 1, 1, .iload 1, 0),
  (5, .iconst 3, 1, .iconst 3, 0),
  (6, .if_icmp .lt 6, 3, .if_icmp .lt 6, 0),
  (9, .bipush (-2), 2, .iconst (-2), 0),
  (11, .ireturn, 1, .ireturn, 0),
  (12, .aload_n 0, 1, .aload 0, 0),
  (13, .getfield 39, 3, .getfield 581, 2074),
  (16, .iload_n 1, 1, .iload 1, 0),
  (17, .invokestatic 241, 3, .invokestatic 34, 4074),
  (20, .ifCond .ne 6, 3, .ifCond .ne 6, 0),
  (23, .bipush (-6), 2, .iconst (-6), 0),
  (25, .ireturn, 1, .ireturn, 0)]
def q_m101 : q_MI := (⟨"SisterCount", "back", "(I)I"⟩, prog_1_method_71_code, 2, (some .int), q_c101, (1, 21, 1, 0), (6048, 6046, 6047, 1001))
def q_c102 : List q_I := [(0, .iload_n 1, 1, .iload 1, 0),
  (1, .invokestatic 388, 3, .invokestatic 75, 5009),
  (4, .ifCond .eq 18, 3, .ifCond .eq 18, 0),
  (7, .iload_n 2, 1, .iload 2, 0),
  (8, .ifCond .lt 14, 3, .ifCond .lt 14, 0),
  (11, .iload_n 2, 1, .iload 2, 0),
  (12, .iconst 3, 1, .iconst 3, 0),
  (13, .if_icmp .gt 9, 3, .if_icmp .gt 9, 0),
  (16, .iload_n 3, 1, .iload 3, 0),
  (17, .bipush 60, 2, .iconst 60, 0),
  (19, .if_icmp .le 6, 3, .if_icmp .le 6, 0),
  (22, .bipush (-2), 2, .iconst (-2), 0),
  (24, .ireturn, 1, .ireturn, 0),
  (25, .iload_n 3, 1, .iload 3, 0),
  (26, .ifCond .ge 6, 3, .ifCond .ge 6, 0),
  (29, .bipush (-3), 2, .iconst (-3), 0),
  (31, .ireturn, 1, .ireturn, 0),
  (32, .aload_n 0, 1, .aload 0, 0),
  (33, .getfield 45, 3, .getfield 582, 2075),
  (36, .iload_n 1, 1, .iload 1, 0),
  (37, .aaload, 1, .aaload, 0),
  (38, .iload_n 2, 1, .iload 2, 0),
  (39, .iload_n 3, 1, .iload 3, 0),
  (40, .invokevirtual 391, 3, .invokevirtual 103, 6053),
  (43, .iconst 0, 1, .iconst 0, 0),
  (44, .ireturn, 1, .ireturn, 0)]
def q_m102 : q_MI := (⟨"SisterCount", "row", "(III)I"⟩, prog_1_method_72_code, 4, (some .int), q_c102, (2, 46, 3, 0), (6052, 6050, 6051, 1001))
def q_c103 : List q_I := [(0, .aload_n 0, 1, .aload 0, 0),
  (1, .iload_n 1, 1, .iload 1, 0),
  (2, .putfield 15, 3, .putfield 385, 2056),
  (5, .aload_n 0, 1, .aload 0, 0),
  (6, .iload_n 2, 1, .iload 2, 0),
  (7, .putfield 19, 3, .putfield 386, 2058),
  (10, .aload_n 0, 1, .aload 0, 0),
  (11, .getfield 9, 3, .getfield 384, 2053),
  (14, .lconst 0, 1, .goto_w 0, 0),
  (15, .invokestatic 22, 3, .invokestatic 104, 6057),
  (18, .return_, 1, .return_, 0)]
def q_m103 : q_MI := (⟨"SisterCount$Row", "start", "(II)V"⟩, prog_8_method_3_code, 3, none, q_c103, (1, 24, 2, 0), (6056, 6054, 6055, 1010))
def q_c104 : List q_I := [(0, .iconst 0, 1, .iconst 0, 0),
  (1, .istore_n 3, 1, .istore 3, 0),
  (2, .aload_n 0, 1, .aload 0, 0),
  (3, .arraylength, 1, .arraylength, 0),
  (4, .istore 4, 2, .istore 4, 0),
  (6, .iload_n 3, 1, .iload 3, 0),
  (7, .iload 4, 2, .iload 4, 0),
  (9, .if_icmp .ge 13, 3, .if_icmp .ge 13, 0),
  (12, .aload_n 0, 1, .aload 0, 0),
  (13, .iload_n 3, 1, .iload 3, 0),
  (14, .lload_n 1, 1, .lload 1, 0),
  (15, .lastore, 1, .lastore, 0),
  (16, .iinc 3 1, 3, .iinc 3 1, 0),
  (19, .goto (-13), 3, .goto (-13), 0),
  (22, .return_, 1, .return_, 0)]
def q_m104 : q_MI := (⟨"java/util/Arrays", "fill", "([JJ)V"⟩, prog_19_method_101_code, 5, none, q_c104, (0, 0, 2, 1), (6059, 6058, 0, 1012))
def q_c105 : List q_I := [(0, .iload_n 1, 1, .iload 1, 0),
  (1, .invokestatic 388, 3, .invokestatic 75, 5009),
  (4, .ifCond .ne 6, 3, .ifCond .ne 6, 0),
  (7, .bipush (-2), 2, .iconst (-2), 0),
  (9, .ireturn, 1, .ireturn, 0),
  (10, .aload_n 0, 1, .aload 0, 0),
  (11, .getfield 45, 3, .getfield 582, 2075),
  (14, .iload_n 1, 1, .iload 1, 0),
  (15, .aaload, 1, .aaload, 0),
  (16, .invokevirtual 394, 3, .invokevirtual 76, 5012),
  (19, .ifCond .ne 6, 3, .ifCond .ne 6, 0),
  (22, .bipush (-6), 2, .iconst (-6), 0),
  (24, .ireturn, 1, .ireturn, 0)]
def q_m105 : q_MI := (⟨"SisterCount", "write", "(IIJ)I"⟩, prog_1_method_73_code, 5, (some .int), q_c105, (1, 20, 3, 0), (6063, 6061, 6062, 1001))
def q_c106 : List q_I := [(0, .iload_n 1, 1, .iload 1, 0),
  (1, .invokestatic 388, 3, .invokestatic 75, 5009),
  (4, .ifCond .eq 10, 3, .ifCond .eq 10, 0),
  (7, .iload_n 3, 1, .iload 3, 0),
  (8, .invokestatic 388, 3, .invokestatic 75, 5009),
  (11, .ifCond .ne 6, 3, .ifCond .ne 6, 0),
  (14, .bipush (-2), 2, .iconst (-2), 0),
  (16, .ireturn, 1, .ireturn, 0),
  (17, .aload_n 0, 1, .aload 0, 0),
  (18, .getfield 45, 3, .getfield 582, 2075),
  (21, .iload_n 1, 1, .iload 1, 0),
  (22, .aaload, 1, .aaload, 0),
  (23, .astore 6, 2, .astore 6, 0),
  (25, .aload_n 0, 1, .aload 0, 0),
  (26, .getfield 45, 3, .getfield 582, 2075),
  (29, .iload_n 3, 1, .iload 3, 0),
  (30, .aaload, 1, .aaload, 0),
  (31, .astore 7, 2, .astore 7, 0),
  (33, .aload 6, 2, .aload 6, 0),
  (35, .invokevirtual 394, 3, .invokevirtual 76, 5012),
  (38, .ifCond .eq 11, 3, .ifCond .eq 11, 0),
  (49, .bipush (-6), 2, .iconst (-6), 0),
  (51, .ireturn, 1, .ireturn, 0)]
def q_m106 : q_MI := (⟨"SisterCount", "paste", "(IIIII)I"⟩, prog_1_method_74_code, 8, (some .int), q_c106, (1, 20, 5, 0), (6075, 6073, 6074, 1001))
def q_c107 : List q_I := [(0, .aload_n 0, 1, .aload 0, 0),
  (1, .invokespecial 3, 3, .invokedynamic 0, 6082),
  (4, .aload_n 0, 1, .aload 0, 0),
  (5, .sipush 277, 3, .iconst 277, 0),
  (8, .newarray .int, 2, .newarray .int, 1182),
  (10, .putfield 9, 3, .putfield 641, 6083),
  (13, .aload_n 0, 1, .aload 0, 0),
  (14, .sipush 831, 3, .iconst 831, 0),
  (17, .newarray .int, 2, .newarray .int, 1182),
  (19, .putfield 13, 3, .putfield 642, 6084),
  (22, .aload_n 0, 1, .aload 0, 0),
  (23, .iconst 3, 1, .iconst 3, 0),
  (24, .newarray .boolean, 2, .newarray .boolean, 6206),
  (26, .putfield 16, 3, .putfield 643, 6085),
  (29, .aload_n 0, 1, .aload 0, 0),
  (30, .sipush 1200, 3, .iconst 1200, 0),
  (33, .newarray .byte, 2, .newarray .byte, 1044),
  (35, .putfield 20, 3, .putfield 644, 6086),
  (38, .aload_n 0, 1, .aload 0, 0),
  (39, .iconst 5, 1, .iconst 5, 0),
  (40, .newarray .int, 2, .newarray .int, 1182),
  (42, .putfield 24, 3, .putfield 646, 6088),
  (45, .aload_n 0, 1, .aload 0, 0),
  (46, .iconst (-1), 1, .iconst (-1), 0),
  (47, .putfield 27, 3, .putfield 653, 6095),
  (50, .aload_n 0, 1, .aload 0, 0),
  (51, .sipush 277, 3, .iconst 277, 0),
  (54, .newarray .int, 2, .newarray .int, 1182),
  (56, .putfield 31, 3, .putfield 654, 6096),
  (59, .aload_n 0, 1, .aload 0, 0),
  (60, .bipush 120, 2, .iconst 120, 0),
  (62, .newarray .int, 2, .newarray .int, 1182),
  (64, .putfield 34, 3, .putfield 655, 6097),
  (67, .aload_n 0, 1, .aload 0, 0),
  (68, .bipush 10, 2, .iconst 10, 0),
  (70, .newarray .int, 2, .newarray .int, 1182),
  (72, .putfield 37, 3, .putfield 656, 6098),
  (75, .aload_n 0, 1, .aload 0, 0),
  (76, .bipush 10, 2, .iconst 10, 0),
  (78, .newarray .int, 2, .newarray .int, 1182),
  (80, .putfield 40, 3, .putfield 657, 6099),
  (83, .aload_n 0, 1, .aload 0, 0),
  (84, .bipush 10, 2, .iconst 10, 0),
  (86, .newarray .int, 2, .newarray .int, 1182),
  (88, .putfield 43, 3, .putfield 658, 6100),
  (91, .aload_n 0, 1, .aload 0, 0),
  (92, .sipush 11264, 3, .iconst 11264, 0),
  (95, .newarray .int, 2, .newarray .int, 1182),
  (97, .putfield 46, 3, .putfield 662, 6104),
  (100, .aload_n 0, 1, .aload 0, 0),
  (101, .sipush 1024, 3, .iconst 1024, 0),
  (104, .newarray .int, 2, .newarray .int, 1182),
  (106, .putfield 49, 3, .putfield 663, 6105),
  (109, .aload_n 0, 1, .aload 0, 0),
  (110, .sipush 1024, 3, .iconst 1024, 0),
  (113, .newarray .int, 2, .newarray .int, 1182),
  (115, .putfield 52, 3, .putfield 664, 6106),
  (118, .aload_n 0, 1, .aload 0, 0),
  (119, .sipush 1024, 3, .iconst 1024, 0),
  (122, .newarray .boolean, 2, .newarray .boolean, 6206),
  (124, .putfield 55, 3, .putfield 665, 6107),
  (127, .aload_n 0, 1, .aload 0, 0),
  (128, .bipush 20, 2, .iconst 20, 0),
  (130, .newarray .int, 2, .newarray .int, 1182),
  (132, .putfield 58, 3, .putfield 670, 6112),
  (135, .aload_n 0, 1, .aload 0, 0),
  (136, .bipush 20, 2, .iconst 20, 0),
  (138, .newarray .int, 2, .newarray .int, 1182),
  (140, .putfield 61, 3, .putfield 671, 6113),
  (143, .aload_n 0, 1, .aload 0, 0),
  (144, .bipush 20, 2, .iconst 20, 0),
  (146, .newarray .int, 2, .newarray .int, 1182),
  (148, .putfield 64, 3, .putfield 672, 6114),
  (151, .aload_n 0, 1, .aload 0, 0),
  (152, .bipush 20, 2, .iconst 20, 0),
  (154, .newarray .int, 2, .newarray .int, 1182),
  (156, .putfield 67, 3, .putfield 673, 6115),
  (159, .aload_n 0, 1, .aload 0, 0),
  (160, .bipush 6, 2, .iconst 6, 0),
  (162, .newarray .int, 2, .newarray .int, 1182),
  (164, .putfield 70, 3, .putfield 674, 6116),
  (167, .aload_n 0, 1, .aload 0, 0),
  (168, .sipush 6720, 3, .iconst 6720, 0),
  (171, .newarray .int, 2, .newarray .int, 1182),
  (173, .putfield 73, 3, .putfield 675, 6117),
  (176, .aload_n 0, 1, .aload 0, 0),
  (177, .iconst 4, 1, .iconst 4, 0),
  (178, .newarray .int, 2, .newarray .int, 1182),
  (180, .dup, 1, .dup, 0),
  (181, .iconst 0, 1, .iconst 0, 0),
  (182, .iconst (-1), 1, .iconst (-1), 0),
  (183, .iastore, 1, .iastore, 0),
  (184, .dup, 1, .dup, 0),
  (185, .iconst 1, 1, .iconst 1, 0),
  (186, .iconst (-1), 1, .iconst (-1), 0),
  (187, .iastore, 1, .iastore, 0),
  (188, .dup, 1, .dup, 0),
  (189, .iconst 2, 1, .iconst 2, 0),
  (190, .iconst (-1), 1, .iconst (-1), 0),
  (191, .iastore, 1, .iastore, 0),
  (192, .dup, 1, .dup, 0),
  (193, .iconst 3, 1, .iconst 3, 0),
  (194, .iconst (-1), 1, .iconst (-1), 0),
  (195, .iastore, 1, .iastore, 0),
  (196, .putfield 76, 3, .putfield 677, 6119),
  (199, .aload_n 0, 1, .aload 0, 0),
  (200, .iconst 4, 1, .iconst 4, 0),
  (201, .newarray .int, 2, .newarray .int, 1182),
  (203, .putfield 79, 3, .putfield 678, 6120),
  (206, .aload_n 0, 1, .aload 0, 0),
  (207, .sipush 240, 3, .iconst 240, 0),
  (210, .newarray .long, 2, .newarray .long, 2068),
  (212, .putfield 82, 3, .putfield 679, 6121),
  (215, .aload_n 0, 1, .aload 0, 0),
  (216, .bipush 60, 2, .iconst 60, 0),
  (218, .newarray .long, 2, .newarray .long, 2068),
  (220, .putfield 86, 3, .putfield 680, 6122),
  (223, .return_, 1, .return_, 0)]
def q_m107 : q_MI := (⟨"SisterCountModel", "<init>", "()V"⟩, prog_12_method_1_code, 1, none, q_c107, (1, 20, 0, 2), (6081, 6080, 0, 1011))
def q_c108 : List q_I := [(0, .iload_n 1, 1, .iload 1, 0),
  (1, .i2l, 1, .i2l, 0),
  (2, .lconst 0, 1, .goto_w 0, 0),
  (3, .ldc2_w 92, 3, .jsr_w 2, 6211),
  (6, .invokestatic 94, 3, .invokestatic 109, 6212),
  (9, .ifCond .ne 6, 3, .ifCond .ne 6, 0),
  (12, .bipush (-2), 2, .iconst (-2), 0),
  (14, .ireturn, 1, .ireturn, 0),
  (15, .iconst 0, 1, .iconst 0, 0),
  (16, .istore_n 2, 1, .istore 2, 0),
  (17, .iload_n 2, 1, .iload 2, 0),
  (18, .sipush 277, 3, .iconst 277, 0),
  (21, .if_icmp .ge 27, 3, .if_icmp .ge 27, 0),
  (24, .aload_n 0, 1, .aload 0, 0),
  (25, .getfield 13, 3, .getfield 642, 6084),
  (28, .sipush 277, 3, .iconst 277, 0),
  (31, .iload_n 1, 1, .iload 1, 0),
  (32, .imul, 1, .imul, 0),
  (33, .iload_n 2, 1, .iload 2, 0),
  (34, .iadd, 1, .iadd, 0),
  (35, .aload_n 0, 1, .aload 0, 0),
  (36, .getfield 9, 3, .getfield 641, 6083),
  (39, .iload_n 2, 1, .iload 2, 0),
  (40, .iaload, 1, .iaload, 0),
  (41, .iastore, 1, .iastore, 0),
  (42, .iinc 2 1, 3, .iinc 2 1, 0),
  (45, .goto (-28), 3, .goto (-28), 0),
  (48, .aload_n 0, 1, .aload 0, 0),
  (49, .getfield 16, 3, .getfield 643, 6085),
  (52, .iload_n 1, 1, .iload 1, 0),
  (53, .iconst 1, 1, .iconst 1, 0),
  (54, .bastore, 1, .bastore, 0),
  (55, .iconst 0, 1, .iconst 0, 0),
  (56, .ireturn, 1, .ireturn, 0)]
def q_m108 : q_MI := (⟨"SisterCountModel", "image", "(I)I"⟩, prog_12_method_5_code, 3, (some .int), q_c108, (1, 25, 1, 0), (6210, 6208, 6209, 1011))
def q_c109 : List q_I := [(0, .lload_n 0, 1, .lload 0, 0),
  (1, .lload_n 2, 1, .lload 2, 0),
  (2, .lcmp, 1, .lcmp, 0),
  (3, .ifCond .lt 14, 3, .ifCond .lt 14, 0),
  (6, .lload_n 0, 1, .lload 0, 0),
  (7, .lload 4, 2, .lload 4, 0),
  (9, .lcmp, 1, .lcmp, 0),
  (10, .ifCond .gt 7, 3, .ifCond .gt 7, 0),
  (13, .iconst 1, 1, .iconst 1, 0),
  (14, .goto 4, 3, .goto 4, 0),
  (17, .iconst 0, 1, .iconst 0, 0),
  (18, .ireturn, 1, .ireturn, 0)]
def q_m109 : q_MI := (⟨"SisterCountModel", "in", "(JJJ)Z"⟩, prog_12_method_3_code, 6, (some .boolean), q_c109, (0, 0, 3, 1), (6214, 6213, 0, 1011))
def q_c110 : List q_I := [(0, .iload_n 1, 1, .iload 1, 0),
  (1, .i2l, 1, .i2l, 0),
  (2, .lconst 0, 1, .goto_w 0, 0),
  (3, .ldc2_w 92, 3, .jsr_w 2, 6211),
  (6, .invokestatic 94, 3, .invokestatic 109, 6212),
  (9, .ifCond .ne 6, 3, .ifCond .ne 6, 0),
  (12, .bipush (-2), 2, .iconst (-2), 0),
  (14, .ireturn, 1, .ireturn, 0),
  (15, .aload_n 0, 1, .aload 0, 0),
  (16, .getfield 16, 3, .getfield 643, 6085),
  (19, .iload_n 1, 1, .iload 1, 0),
  (20, .baload, 1, .baload, 0),
  (21, .ifCond .ne 6, 3, .ifCond .ne 6, 0),
  (24, .bipush (-6), 2, .iconst (-6), 0),
  (26, .ireturn, 1, .ireturn, 0)]
def q_m110 : q_MI := (⟨"SisterCountModel", "back", "(I)I"⟩, prog_12_method_6_code, 3, (some .int), q_c110, (1, 25, 1, 0), (6218, 6216, 6217, 1011))
def q_c111 : List q_I := [(0, .aload_n 0, 1, .aload 0, 0),
  (1, .getfield 98, 3, .getfield 645, 6087),
  (4, .bipush 20, 2, .iconst 20, 0),
  (6, .iadd, 1, .iadd, 0),
  (7, .sipush 1200, 3, .iconst 1200, 0),
  (10, .if_icmp .le 5, 3, .if_icmp .le 5, 0),
  (15, .aload_n 0, 1, .aload 0, 0),
  (16, .getfield 24, 3, .getfield 646, 6088),
  (19, .iconst 0, 1, .iconst 0, 0),
  (20, .iload_n 1, 1, .iload 1, 0),
  (21, .iastore, 1, .iastore, 0),
  (22, .aload_n 0, 1, .aload 0, 0),
  (23, .getfield 24, 3, .getfield 646, 6088),
  (26, .iconst 1, 1, .iconst 1, 0),
  (27, .iload_n 2, 1, .iload 2, 0),
  (28, .iastore, 1, .iastore, 0),
  (29, .aload_n 0, 1, .aload 0, 0),
  (30, .getfield 24, 3, .getfield 646, 6088),
  (33, .iconst 2, 1, .iconst 2, 0),
  (34, .iload_n 3, 1, .iload 3, 0),
  (35, .iastore, 1, .iastore, 0),
  (36, .aload_n 0, 1, .aload 0, 0),
  (37, .getfield 24, 3, .getfield 646, 6088),
  (40, .iconst 3, 1, .iconst 3, 0),
  (41, .iload 4, 2, .iload 4, 0),
  (43, .iastore, 1, .iastore, 0),
  (44, .aload_n 0, 1, .aload 0, 0),
  (45, .getfield 24, 3, .getfield 646, 6088),
  (48, .iconst 4, 1, .iconst 4, 0),
  (49, .iload 5, 2, .iload 5, 0),
  (51, .iastore, 1, .iastore, 0),
  (52, .iconst 0, 1, .iconst 0, 0),
  (53, .istore 6, 2, .istore 6, 0),
  (55, .iload 6, 2, .iload 6, 0),
  (57, .bipush 20, 2, .iconst 20, 0),
  (59, .if_icmp .ge 42, 3, .if_icmp .ge 42, 0),
  (62, .aload_n 0, 1, .aload 0, 0),
  (63, .getfield 20, 3, .getfield 644, 6086),
  (66, .aload_n 0, 1, .aload 0, 0),
  (67, .getfield 98, 3, .getfield 645, 6087),
  (70, .iload 6, 2, .iload 6, 0),
  (72, .iadd, 1, .iadd, 0),
  (73, .aload_n 0, 1, .aload 0, 0),
  (74, .getfield 24, 3, .getfield 646, 6088),
  (77, .iload 6, 2, .iload 6, 0),
  (79, .iconst 4, 1, .iconst 4, 0),
  (80, .idiv, 1, .idiv, 0),
  (81, .iaload, 1, .iaload, 0),
  (82, .bipush 24, 2, .iconst 24, 0),
  (84, .bipush 8, 2, .iconst 8, 0),
  (86, .iload 6, 2, .iload 6, 0),
  (88, .iconst 4, 1, .iconst 4, 0),
  (89, .irem, 1, .irem, 0),
  (90, .imul, 1, .imul, 0),
  (91, .isub, 1, .isub, 0),
  (92, .ishr, 1, .ishr, 0),
  (93, .i2b, 1, .i2b, 0),
  (94, .bastore, 1, .bastore, 0),
  (95, .iinc 6 1, 3, .iinc 6 1, 0),
  (98, .goto (-43), 3, .goto (-43), 0),
  (101, .aload_n 0, 1, .aload 0, 0),
  (102, .dup, 1, .dup, 0),
  (103, .getfield 98, 3, .getfield 645, 6087),
  (106, .bipush 20, 2, .iconst 20, 0),
  (108, .iadd, 1, .iadd, 0),
  (109, .putfield 98, 3, .putfield 645, 6087),
  (112, .aload_n 0, 1, .aload 0, 0),
  (113, .getfield 98, 3, .getfield 645, 6087),
  (116, .ireturn, 1, .ireturn, 0)]
def q_m111 : q_MI := (⟨"SisterCountModel", "feed", "(IIIII)I"⟩, prog_12_method_14_code, 7, (some .int), q_c111, (0, 0, 5, 0), (6222, 6220, 6221, 1011))
def q_c112 : List q_I := [(0, .iload_n 1, 1, .iload 1, 0),
  (1, .i2l, 1, .i2l, 0),
  (2, .lconst 0, 1, .goto_w 0, 0),
  (3, .aload_n 0, 1, .aload 0, 0),
  (4, .getfield 98, 3, .getfield 645, 6087),
  (7, .i2l, 1, .i2l, 0),
  (8, .invokestatic 94, 3, .invokestatic 109, 6212),
  (11, .ifCond .ne 5, 3, .ifCond .ne 5, 0),
  (14, .iconst (-1), 1, .iconst (-1), 0),
  (15, .ireturn, 1, .ireturn, 0),
  (16, .aload_n 0, 1, .aload 0, 0),
  (17, .iload_n 1, 1, .iload 1, 0),
  (18, .putfield 98, 3, .putfield 645, 6087),
  (21, .iload_n 1, 1, .iload 1, 0),
  (22, .ireturn, 1, .ireturn, 0)]
def q_m112 : q_MI := (⟨"SisterCountModel", "end", "(I)I"⟩, prog_12_method_15_code, 2, (some .int), q_c112, (1, 25, 1, 0), (6226, 6224, 6225, 1011))
def q_c113 : List q_I := [(0, .iload_n 1, 1, .iload 1, 0),
  (1, .ifCond .ne 10, 3, .ifCond .ne 10, 0),
  (4, .aload_n 0, 1, .aload 0, 0),
  (5, .getfield 135, 3, .getfield 652, 6094),
  (8, .goto 16, 3, .goto 16, 0),
  (11, .iload_n 1, 1, .iload 1, 0),
  (12, .iconst 1, 1, .iconst 1, 0),
  (13, .if_icmp .ne 10, 3, .if_icmp .ne 10, 0),
  (16, .aload_n 0, 1, .aload 0, 0),
  (17, .getfield 27, 3, .getfield 653, 6095),
  (20, .goto 4, 3, .goto 4, 0),
  (23, .iconst (-1), 1, .iconst (-1), 0),
  (24, .ireturn, 1, .ireturn, 0)]
def q_m113 : q_MI := (⟨"SisterCountModel", "fault", "(I)I"⟩, prog_12_method_24_code, 2, (some .int), q_c113, (0, 0, 1, 0), (6230, 6228, 6229, 1011))
def q_c114 : List q_I := [(0, .aload_n 0, 1, .aload 0, 0),
  (1, .aload_n 0, 1, .aload 0, 0),
  (2, .getfield 98, 3, .getfield 645, 6087),
  (5, .putfield 101, 3, .putfield 647, 6089),
  (8, .aload_n 0, 1, .aload 0, 0),
  (9, .iconst 0, 1, .iconst 0, 0),
  (10, .putfield 98, 3, .putfield 645, 6087),
  (13, .aload_n 0, 1, .aload 0, 0),
  (14, .iconst 0, 1, .iconst 0, 0),
  (15, .putfield 104, 3, .putfield 648, 6090),
  (18, .aload_n 0, 1, .aload 0, 0),
  (19, .iconst 0, 1, .iconst 0, 0),
  (20, .putfield 135, 3, .putfield 652, 6094),
  (23, .aload_n 0, 1, .aload 0, 0),
  (24, .iconst (-1), 1, .iconst (-1), 0),
  (25, .putfield 27, 3, .putfield 653, 6095),
  (28, .iconst 0, 1, .iconst 0, 0),
  (29, .istore_n 1, 1, .istore 1, 0),
  (30, .iload_n 1, 1, .iload 1, 0),
  (31, .sipush 277, 3, .iconst 277, 0),
  (34, .if_icmp .ge 16, 3, .if_icmp .ge 16, 0),
  (37, .aload_n 0, 1, .aload 0, 0),
  (38, .getfield 31, 3, .getfield 654, 6096),
  (41, .iload_n 1, 1, .iload 1, 0),
  (42, .iconst 0, 1, .iconst 0, 0),
  (43, .iastore, 1, .iastore, 0),
  (44, .iinc 1 1, 3, .iinc 1 1, 0),
  (47, .goto (-17), 3, .goto (-17), 0),
  (50, .aload_n 0, 1, .aload 0, 0),
  (51, .invokevirtual 156, 3, .invokevirtual 115, 6235),
  (54, .aload_n 0, 1, .aload 0, 0),
  (55, .invokevirtual 138, 3, .invokevirtual 117, 7009),
  (58, .ifCond .eq 17, 3, .ifCond .eq 17, 0),
  (61, .aload_n 0, 1, .aload 0, 0),
  (62, .getfield 114, 3, .getfield 650, 6092),
  (65, .ifCond .eq 10, 3, .ifCond .eq 10, 0),
  (75, .aload_n 0, 1, .aload 0, 0),
  (76, .invokevirtual 138, 3, .invokevirtual 117, 7009),
  (79, .ifCond .ne 6, 3, .ifCond .ne 6, 0),
  (85, .iconst 0, 1, .iconst 0, 0),
  (86, .istore_n 1, 1, .istore 1, 0),
  (87, .iload_n 1, 1, .iload 1, 0),
  (88, .sipush 277, 3, .iconst 277, 0),
  (91, .if_icmp .ge 21, 3, .if_icmp .ge 21, 0),
  (94, .aload_n 0, 1, .aload 0, 0),
  (95, .getfield 9, 3, .getfield 641, 6083),
  (98, .iload_n 1, 1, .iload 1, 0),
  (99, .aload_n 0, 1, .aload 0, 0),
  (100, .getfield 31, 3, .getfield 654, 6096),
  (103, .iload_n 1, 1, .iload 1, 0),
  (104, .iaload, 1, .iaload, 0),
  (105, .iastore, 1, .iastore, 0),
  (106, .iinc 1 1, 3, .iinc 1 1, 0),
  (109, .goto (-22), 3, .goto (-22), 0),
  (112, .aload_n 0, 1, .aload 0, 0),
  (113, .getfield 9, 3, .getfield 641, 6083),
  (116, .iconst 5, 1, .iconst 5, 0),
  (117, .iaload, 1, .iaload, 0),
  (118, .ireturn, 1, .ireturn, 0)]
def q_m114 : q_MI := (⟨"SisterCountModel", "town", "()I"⟩, prog_12_method_31_code, 2, (some .int), q_c114, (2, 42, 0, 0), (6234, 6232, 6233, 1011))
def q_c115 : List q_I := [(0, .aload_n 0, 1, .aload 0, 0),
  (1, .aload_n 0, 1, .aload 0, 0),
  (2, .getfield 104, 3, .getfield 648, 6090),
  (5, .invokevirtual 107, 3, .invokevirtual 116, 6239),
  (8, .bipush 32, 2, .iconst 32, 0),
  (10, .if_icmp .eq 16, 3, .if_icmp .eq 16, 0),
  (13, .aload_n 0, 1, .aload 0, 0),
  (14, .aload_n 0, 1, .aload 0, 0),
  (15, .getfield 104, 3, .getfield 648, 6090),
  (18, .invokevirtual 107, 3, .invokevirtual 116, 6239),
  (21, .bipush 10, 2, .iconst 10, 0),
  (23, .if_icmp .ne 16, 3, .if_icmp .ne 16, 0),
  (39, .aload_n 0, 1, .aload 0, 0),
  (40, .aload_n 0, 1, .aload 0, 0),
  (41, .getfield 104, 3, .getfield 648, 6090),
  (44, .putfield 111, 3, .putfield 649, 6091),
  (47, .aload_n 0, 1, .aload 0, 0),
  (48, .aload_n 0, 1, .aload 0, 0),
  (49, .getfield 104, 3, .getfield 648, 6090),
  (52, .invokevirtual 107, 3, .invokevirtual 116, 6239),
  (55, .istore_n 1, 1, .istore 1, 0),
  (56, .iload_n 1, 1, .iload 1, 0),
  (57, .iconst (-1), 1, .iconst (-1), 0),
  (58, .if_icmp .ne 11, 3, .if_icmp .ne 11, 0),
  (61, .aload_n 0, 1, .aload 0, 0),
  (62, .iconst 0, 1, .iconst 0, 0),
  (63, .putfield 114, 3, .putfield 650, 6092),
  (66, .goto 173, 3, .goto 173, 0),
  (239, .return_, 1, .return_, 0)]
def q_m115 : q_MI := (⟨"SisterCountModel", "advance", "()V"⟩, prog_12_method_17_code, 2, none, q_c115, (1, 21, 0, 0), (6238, 6237, 47, 1011))
def q_c116 : List q_I := [(0, .iload_n 1, 1, .iload 1, 0),
  (1, .aload_n 0, 1, .aload 0, 0),
  (2, .getfield 101, 3, .getfield 647, 6089),
  (5, .if_icmp .ge 16, 3, .if_icmp .ge 16, 0),
  (21, .iconst (-1), 1, .iconst (-1), 0),
  (22, .ireturn, 1, .ireturn, 0)]
def q_m116 : q_MI := (⟨"SisterCountModel", "see", "(I)I"⟩, prog_12_method_16_code, 2, (some .int), q_c116, (0, 0, 1, 0), (7002, 7001, 48, 1011))
def q_c117 : List q_I := [(0, .aload_n 0, 1, .aload 0, 0),
  (1, .getfield 135, 3, .getfield 652, 6094),
  (4, .ifCond .ne 7, 3, .ifCond .ne 7, 0),
  (7, .iconst 1, 1, .iconst 1, 0),
  (8, .goto 4, 3, .goto 4, 0),
  (12, .ireturn, 1, .ireturn, 0)]
def q_m117 : q_MI := (⟨"SisterCountModel", "good", "()Z"⟩, prog_12_method_18_code, 1, (some .boolean), q_c117, (0, 0, 0, 0), (7012, 7011, 49, 1011))
def q_c118 : List q_I := [(0, .aload_n 0, 1, .aload 0, 0),
  (1, .iload_n 1, 1, .iload 1, 0),
  (2, .i2l, 1, .i2l, 0),
  (3, .invokevirtual 252, 3, .invokevirtual 119, 7081),
  (6, .ifCond .eq 24, 3, .ifCond .eq 24, 0),
  (30, .bipush (-2), 2, .iconst (-2), 0),
  (32, .ireturn, 1, .ireturn, 0)]
def q_m118 : q_MI := (⟨"SisterCountModel", "child", "(II)I"⟩, prog_12_method_40_code, 3, (some .int), q_c118, (2, 47, 2, 0), (7080, 7078, 7079, 1011))
def q_c119 : List q_I := [(0, .lload_n 1, 1, .lload 1, 0),
  (1, .lconst 0, 1, .goto_w 0, 0),
  (2, .aload_n 0, 1, .aload 0, 0),
  (3, .getfield 9, 3, .getfield 641, 6083),
  (6, .iconst 3, 1, .iconst 3, 0),
  (7, .iaload, 1, .iaload, 0),
  (8, .iconst 1, 1, .iconst 1, 0),
  (9, .isub, 1, .isub, 0),
  (10, .i2l, 1, .i2l, 0),
  (11, .invokestatic 94, 3, .invokestatic 109, 6212),
  (14, .ireturn, 1, .ireturn, 0)]
def q_m119 : q_MI := (⟨"SisterCountModel", "isChild", "(J)Z"⟩, prog_12_method_8_code, 3, (some .boolean), q_c119, (1, 25, 1, 0), (7084, 7083, 61, 1011))
def q_c120 : List q_I := [(0, .aload_n 0, 1, .aload 0, 0),
  (1, .iload_n 1, 1, .iload 1, 0),
  (2, .invokevirtual 262, 3, .invokevirtual 121, 7094),
  (5, .ifCond .eq 15, 3, .ifCond .eq 15, 0),
  (20, .bipush (-2), 2, .iconst (-2), 0),
  (22, .ireturn, 1, .ireturn, 0)]
def q_m120 : q_MI := (⟨"SisterCountModel", "house", "(II)I"⟩, prog_12_method_43_code, 5, (some .int), q_c120, (2, 46, 2, 0), (7093, 7091, 7092, 1011))
def q_c121 : List q_I := [(0, .iload_n 1, 1, .iload 1, 0),
  (1, .i2l, 1, .i2l, 0),
  (2, .lconst 0, 1, .goto_w 0, 0),
  (3, .aload_n 0, 1, .aload 0, 0),
  (4, .getfield 9, 3, .getfield 641, 6083),
  (7, .iconst 2, 1, .iconst 2, 0),
  (8, .iaload, 1, .iaload, 0),
  (9, .iconst 1, 1, .iconst 1, 0),
  (10, .isub, 1, .isub, 0),
  (11, .i2l, 1, .i2l, 0),
  (12, .invokestatic 94, 3, .invokestatic 109, 6212),
  (15, .ireturn, 1, .ireturn, 0)]
def q_m121 : q_MI := (⟨"SisterCountModel", "isHouse", "(I)Z"⟩, prog_12_method_9_code, 2, (some .boolean), q_c121, (1, 25, 1, 0), (7097, 7096, 63, 1011))
def q_c122 : List q_I := [(0, .aload_n 0, 1, .aload 0, 0),
  (1, .invokevirtual 273, 3, .invokevirtual 123, 7123),
  (4, .ifCond .eq 10, 3, .ifCond .eq 10, 0),
  (14, .bipush (-2), 2, .iconst (-2), 0),
  (16, .ireturn, 1, .ireturn, 0)]
def q_m122 : q_MI := (⟨"SisterCountModel", "scholars", "()I"⟩, prog_12_method_44_code, 1, (some .int), q_c122, (1, 20, 0, 0), (7122, 7120, 7121, 1011))
def q_c123 : List q_I := [(0, .aload_n 0, 1, .aload 0, 0),
  (1, .getfield 9, 3, .getfield 641, 6083),
  (4, .iconst 5, 1, .iconst 5, 0),
  (5, .iaload, 1, .iaload, 0),
  (6, .ifCond .le 7, 3, .ifCond .le 7, 0),
  (13, .iconst 0, 1, .iconst 0, 0),
  (14, .ireturn, 1, .ireturn, 0)]
def q_m123 : q_MI := (⟨"SisterCountModel", "isTown", "()Z"⟩, prog_12_method_7_code, 1, (some .boolean), q_c123, (0, 0, 0, 0), (7126, 7125, 69, 1011))
def q_c124 : List q_I := [(0, .iconst 0, 1, .iconst 0, 0),
  (1, .istore_n 1, 1, .istore 1, 0),
  (2, .iconst 0, 1, .iconst 0, 0),
  (3, .istore_n 2, 1, .istore 2, 0),
  (4, .iload_n 2, 1, .iload 2, 0),
  (5, .aload_n 0, 1, .aload 0, 0),
  (6, .getfield 9, 3, .getfield 641, 6083),
  (9, .iconst 3, 1, .iconst 3, 0),
  (10, .iaload, 1, .iaload, 0),
  (11, .if_icmp .ge 28, 3, .if_icmp .ge 28, 0),
  (39, .iload_n 1, 1, .iload 1, 0),
  (40, .ireturn, 1, .ireturn, 0)]
def q_m124 : q_MI := (⟨"SisterCountModel", "scholarsNow", "()I"⟩, prog_12_method_33_code, 3, (some .int), q_c124, (0, 0, 0, 0), (7130, 7129, 70, 1011))
def q_c125 : List q_I := [(0, .aload_n 0, 1, .aload 0, 0),
  (1, .iload_n 1, 1, .iload 1, 0),
  (2, .i2l, 1, .i2l, 0),
  (3, .invokevirtual 252, 3, .invokevirtual 119, 7081),
  (6, .ifCond .eq 21, 3, .ifCond .eq 21, 0),
  (27, .bipush (-2), 2, .iconst (-2), 0),
  (29, .ireturn, 1, .ireturn, 0)]
def q_m125 : q_MI := (⟨"SisterCountModel", "truth", "(II)I"⟩, prog_12_method_45_code, 3, (some .int), q_c125, (2, 47, 2, 0), (7134, 7132, 7133, 1011))
def q_c126 : List q_I := [(0, .lload_n 1, 1, .lload 1, 0),
  (1, .lconst 0, 1, .goto_w 0, 0),
  (2, .aload_n 0, 1, .aload 0, 0),
  (3, .getfield 9, 3, .getfield 641, 6083),
  (6, .iconst 4, 1, .iconst 4, 0),
  (7, .iaload, 1, .iaload, 0),
  (8, .iconst 1, 1, .iconst 1, 0),
  (9, .isub, 1, .isub, 0),
  (10, .i2l, 1, .i2l, 0),
  (11, .invokestatic 94, 3, .invokestatic 109, 6212),
  (14, .ireturn, 1, .ireturn, 0)]
def q_m126 : q_MI := (⟨"SisterCountModel", "isAsk", "(J)Z"⟩, prog_12_method_10_code, 3, (some .boolean), q_c126, (1, 25, 1, 0), (7138, 7137, 71, 1011))
def q_c127 : List q_I := [(0, .aload_n 0, 1, .aload 0, 0),
  (1, .iload_n 1, 1, .iload 1, 0),
  (2, .i2l, 1, .i2l, 0),
  (3, .invokevirtual 252, 3, .invokevirtual 119, 7081),
  (6, .ifCond .eq 12, 3, .ifCond .eq 12, 0),
  (18, .bipush (-2), 2, .iconst (-2), 0),
  (20, .goto 22, 3, .goto 22, 0),
  (42, .ireturn, 1, .ireturn, 0)]
def q_m127 : q_MI := (⟨"SisterCountModel", "answer", "(II)I"⟩, prog_12_method_46_code, 3, (some .int), q_c127, (2, 47, 2, 0), (7158, 7156, 7157, 1011))
def q_c128 : List q_I := [(0, .aload_n 0, 1, .aload 0, 0),
  (1, .invokevirtual 273, 3, .invokevirtual 123, 7123),
  (4, .ifCond .eq 22, 3, .ifCond .eq 22, 0),
  (26, .bipush (-2), 2, .iconst (-2), 0),
  (28, .ireturn, 1, .ireturn, 0)]
def q_m128 : q_MI := (⟨"SisterCountModel", "tale", "(I)I"⟩, prog_12_method_49_code, 2, (some .int), q_c128, (1, 20, 1, 0), (7166, 7164, 7165, 1011))
def q_c129 : List q_I := [(0, .aload_n 0, 1, .aload 0, 0),
  (1, .invokevirtual 273, 3, .invokevirtual 123, 7123),
  (4, .ifCond .eq 18, 3, .ifCond .eq 18, 0),
  (22, .bipush (-2), 2, .iconst (-2), 0),
  (24, .ireturn, 1, .ireturn, 0)]
def q_m129 : q_MI := (⟨"SisterCountModel", "are", "(I)I"⟩, prog_12_method_50_code, 2, (some .int), q_c129, (1, 20, 1, 0), (7177, 7175, 7176, 1011))
def q_c130 : List q_I := [(0, .aload_n 0, 1, .aload 0, 0),
  (1, .iload_n 1, 1, .iload 1, 0),
  (2, .i2l, 1, .i2l, 0),
  (3, .invokevirtual 279, 3, .invokevirtual 126, 7135),
  (6, .ifCond .eq 13, 3, .ifCond .eq 13, 0),
  (19, .ldc2_w 298, 3, .jsr_w (-2), 7186),
  (22, .lreturn, 1, .lreturn, 0)]
def q_m130 : q_MI := (⟨"SisterCountModel", "seems", "(II)J"⟩, prog_12_method_53_code, 7, (some .long), q_c130, (2, 47, 2, 0), (7185, 7183, 7184, 1011))
def q_c131 : List q_I := [(0, .iconst 0, 1, .iconst 0, 0),
  (1, .istore_n 1, 1, .istore 1, 0),
  (2, .iconst 0, 1, .iconst 0, 0),
  (3, .istore_n 2, 1, .istore 2, 0),
  (4, .iload_n 2, 1, .iload 2, 0),
  (5, .bipush 20, 2, .iconst 20, 0),
  (7, .if_icmp .ge 17, 3, .if_icmp .ge 17, 0),
  (10, .iload_n 1, 1, .iload 1, 0),
  (11, .iload_n 0, 1, .iload 0, 0),
  (12, .iload_n 2, 1, .iload 2, 0),
  (13, .ishr, 1, .ishr, 0),
  (14, .iconst 1, 1, .iconst 1, 0),
  (15, .iand, 1, .iand, 0),
  (16, .iadd, 1, .iadd, 0),
  (17, .istore_n 1, 1, .istore 1, 0),
  (18, .iinc 2 1, 3, .iinc 2 1, 0),
  (21, .goto (-17), 3, .goto (-17), 0),
  (24, .iload_n 1, 1, .iload 1, 0),
  (25, .ireturn, 1, .ireturn, 0)]
def q_m131 : q_MI := (⟨"SisterCountModel", "bits", "(I)I"⟩, prog_12_method_4_code, 3, (some .int), q_c131, (0, 0, 1, 1), (7190, 7189, 0, 1011))
def q_c132 : List q_I := [(0, .aload_n 0, 1, .aload 0, 0),
  (1, .iload_n 1, 1, .iload 1, 0),
  (2, .i2l, 1, .i2l, 0),
  (3, .invokevirtual 279, 3, .invokevirtual 126, 7135),
  (6, .ifCond .eq 13, 3, .ifCond .eq 13, 0),
  (19, .ldc2_w 298, 3, .jsr_w (-2), 7186),
  (22, .lreturn, 1, .lreturn, 0)]
def q_m132 : q_MI := (⟨"SisterCountModel", "weighed", "(II)J"⟩, prog_12_method_54_code, 8, (some .long), q_c132, (2, 47, 2, 0), (7200, 7198, 7199, 1011))
def q_c133 : List q_I := [(0, .aload_n 0, 1, .aload 0, 0),
  (1, .invokevirtual 273, 3, .invokevirtual 123, 7123),
  (4, .ifCond .eq 20, 3, .ifCond .eq 20, 0),
  (24, .ldc2_w 298, 3, .jsr_w (-2), 7186),
  (27, .lreturn, 1, .lreturn, 0)]
def q_m133 : q_MI := (⟨"SisterCountModel", "mean", "(II)J"⟩, prog_12_method_55_code, 3, (some .long), q_c133, (1, 20, 2, 0), (7206, 7204, 7205, 1011))
def q_c134 : List q_I := [(0, .aload_n 0, 1, .aload 0, 0),
  (1, .invokevirtual 273, 3, .invokevirtual 123, 7123),
  (4, .ifCond .ne 6, 3, .ifCond .ne 6, 0),
  (7, .bipush (-2), 2, .iconst (-2), 0),
  (9, .ireturn, 1, .ireturn, 0)]
def q_m134 : q_MI := (⟨"SisterCountModel", "unseen", "()I"⟩, prog_12_method_56_code, 3, (some .int), q_c134, (1, 20, 0, 0), (7210, 7208, 7209, 1011))
def q_c135 : List q_I := [(0, .aload_n 0, 1, .aload 0, 0),
  (1, .iload_n 1, 1, .iload 1, 0),
  (2, .invokevirtual 262, 3, .invokevirtual 121, 7094),
  (5, .ifCond .ne 6, 3, .ifCond .ne 6, 0),
  (8, .bipush (-2), 2, .iconst (-2), 0),
  (10, .ireturn, 1, .ireturn, 0)]
def q_m135 : q_MI := (⟨"SisterCountModel", "comes", "(I)I"⟩, prog_12_method_58_code, 3, (some .int), q_c135, (2, 46, 1, 0), (7214, 7212, 7213, 1011))
def q_c136 : List q_I := [(0, .aload_n 0, 1, .aload 0, 0),
  (1, .invokevirtual 273, 3, .invokevirtual 123, 7123),
  (4, .ifCond .eq 13, 3, .ifCond .eq 13, 0),
  (17, .bipush (-2), 2, .iconst (-2), 0),
  (19, .ireturn, 1, .ireturn, 0)]
def q_m136 : q_MI := (⟨"SisterCountModel", "best", "(I)I"⟩, prog_12_method_59_code, 7, (some .int), q_c136, (1, 20, 1, 0), (7222, 7220, 7221, 1011))
def q_c137 : List q_I := [(0, .aload_n 0, 1, .aload 0, 0),
  (1, .invokevirtual 273, 3, .invokevirtual 123, 7123),
  (4, .ifCond .eq 15, 3, .ifCond .eq 15, 0),
  (19, .bipush (-2), 2, .iconst (-2), 0),
  (21, .ireturn, 1, .ireturn, 0)]
def q_m137 : q_MI := (⟨"SisterCountModel", "years", "(I)I"⟩, prog_12_method_60_code, 3, (some .int), q_c137, (1, 20, 1, 0), (7226, 7224, 7225, 1011))
def q_c138 : List q_I := [(0, .aload_n 0, 1, .aload 0, 0),
  (1, .invokevirtual 273, 3, .invokevirtual 123, 7123),
  (4, .ifCond .eq 13, 3, .ifCond .eq 13, 0),
  (17, .bipush (-2), 2, .iconst (-2), 0),
  (19, .ireturn, 1, .ireturn, 0)]
def q_m138 : q_MI := (⟨"SisterCountModel", "slips", "(I)I"⟩, prog_12_method_62_code, 5, (some .int), q_c138, (1, 20, 1, 0), (7231, 7229, 7230, 1011))
def q_c139 : List q_I := [(0, .aload_n 0, 1, .aload 0, 0),
  (1, .iload_n 1, 1, .iload 1, 0),
  (2, .i2l, 1, .i2l, 0),
  (3, .invokevirtual 279, 3, .invokevirtual 126, 7135),
  (6, .ifCond .ne 6, 3, .ifCond .ne 6, 0),
  (9, .bipush (-2), 2, .iconst (-2), 0),
  (11, .ireturn, 1, .ireturn, 0)]
def q_m139 : q_MI := (⟨"SisterCountModel", "kinds", "(I)I"⟩, prog_12_method_66_code, 4, (some .int), q_c139, (2, 47, 1, 0), (7239, 7237, 7238, 1011))
def q_c140 : List q_I := [(0, .aload_n 0, 1, .aload 0, 0),
  (1, .iload_n 1, 1, .iload 1, 0),
  (2, .i2l, 1, .i2l, 0),
  (3, .invokevirtual 279, 3, .invokevirtual 126, 7135),
  (6, .ifCond .eq 11, 3, .ifCond .eq 11, 0),
  (17, .bipush (-2), 2, .iconst (-2), 0),
  (19, .ireturn, 1, .ireturn, 0)]
def q_m140 : q_MI := (⟨"SisterCountModel", "crowd", "(I)I"⟩, prog_12_method_67_code, 2, (some .int), q_c140, (2, 47, 1, 0), (8007, 8005, 8006, 1011))
def q_c141 : List q_I := [(0, .aload_n 0, 1, .aload 0, 0),
  (1, .invokevirtual 273, 3, .invokevirtual 123, 7123),
  (4, .ifCond .ne 6, 3, .ifCond .ne 6, 0),
  (7, .bipush (-2), 2, .iconst (-2), 0),
  (9, .ireturn, 1, .ireturn, 0)]
def q_m141 : q_MI := (⟨"SisterCountModel", "next", "()I"⟩, prog_12_method_68_code, 3, (some .int), q_c141, (1, 20, 0, 0), (8020, 8018, 8019, 1011))
def q_c142 : List q_I := [(0, .aload_n 0, 1, .aload 0, 0),
  (1, .invokevirtual 273, 3, .invokevirtual 123, 7123),
  (4, .ifCond .eq 17, 3, .ifCond .eq 17, 0),
  (21, .bipush (-2), 2, .iconst (-2), 0),
  (23, .ireturn, 1, .ireturn, 0)]
def q_m142 : q_MI := (⟨"SisterCountModel", "tells", "(I)I"⟩, prog_12_method_73_code, 2, (some .int), q_c142, (1, 20, 1, 0), (8024, 8022, 8023, 1011))
def q_c143 : List q_I := [(0, .aload_n 0, 1, .aload 0, 0),
  (1, .invokevirtual 273, 3, .invokevirtual 123, 7123),
  (4, .ifCond .eq 13, 3, .ifCond .eq 13, 0),
  (17, .bipush (-2), 2, .iconst (-2), 0),
  (19, .ireturn, 1, .ireturn, 0)]
def q_m143 : q_MI := (⟨"SisterCountModel", "fewest", "(I)I"⟩, prog_12_method_74_code, 5, (some .int), q_c143, (1, 20, 1, 0), (8044, 8042, 8043, 1011))
def q_c144 : List q_I := [(0, .aload_n 0, 1, .aload 0, 0),
  (1, .iload_n 1, 1, .iload 1, 0),
  (2, .i2l, 1, .i2l, 0),
  (3, .invokevirtual 252, 3, .invokevirtual 119, 7081),
  (6, .ifCond .ne 6, 3, .ifCond .ne 6, 0),
  (9, .bipush (-2), 2, .iconst (-2), 0),
  (11, .ireturn, 1, .ireturn, 0)]
def q_m144 : q_MI := (⟨"SisterCountModel", "like", "(I)I"⟩, prog_12_method_75_code, 4, (some .int), q_c144, (2, 47, 1, 0), (8048, 8046, 8047, 1011))
def q_c145 : List q_I := [(0, .aload_n 0, 1, .aload 0, 0),
  (1, .invokevirtual 273, 3, .invokevirtual 123, 7123),
  (4, .ifCond .eq 19, 3, .ifCond .eq 19, 0),
  (23, .bipush (-2), 2, .iconst (-2), 0),
  (25, .ireturn, 1, .ireturn, 0)]
def q_m145 : q_MI := (⟨"SisterCountModel", "most", "(I)I"⟩, prog_12_method_76_code, 4, (some .int), q_c145, (1, 20, 1, 0), (8052, 8050, 8051, 1011))
def q_c146 : List q_I := [(0, .aload_n 0, 1, .aload 0, 0),
  (1, .iload_n 1, 1, .iload 1, 0),
  (2, .iconst 1, 1, .iconst 1, 0),
  (3, .invokevirtual 381, 3, .invokevirtual 147, 8057),
  (6, .istore_n 2, 1, .istore 2, 0),
  (7, .iload_n 2, 1, .iload 2, 0),
  (8, .ifCond .ge 5, 3, .ifCond .ge 5, 0),
  (11, .iload_n 2, 1, .iload 2, 0),
  (12, .ireturn, 1, .ireturn, 0)]
def q_m146 : q_MI := (⟨"SisterCountModel", "least", "(I)I"⟩, prog_12_method_85_code, 4, (some .int), q_c146, (4, 97, 1, 0), (8056, 8054, 8055, 1011))
def q_c147 : List q_I := [(0, .aload_n 0, 1, .aload 0, 0),
  (1, .iload_n 1, 1, .iload 1, 0),
  (2, .iload_n 2, 1, .iload 2, 0),
  (3, .invokevirtual 374, 3, .invokevirtual 148, 8061),
  (6, .istore_n 3, 1, .istore 3, 0),
  (7, .aload_n 0, 1, .aload 0, 0),
  (8, .iconst (-1), 1, .iconst (-1), 0),
  (9, .putfield 358, 3, .putfield 660, 6102),
  (12, .iload_n 3, 1, .iload 3, 0),
  (13, .ifCond .ne 7, 3, .ifCond .ne 7, 0),
  (20, .iload_n 3, 1, .iload 3, 0),
  (21, .ireturn, 1, .ireturn, 0)]
def q_m147 : q_MI := (⟨"SisterCountModel", "toldOf", "(IZ)I"⟩, prog_12_method_84_code, 4, (some .int), q_c147, (3, 74, 2, 0), (8060, 8059, 88, 1011))
def q_c148 : List q_I := [(0, .iload_n 1, 1, .iload 1, 0),
  (1, .invokestatic 346, 3, .invokestatic 149, 8065),
  (4, .ifCond .eq 14, 3, .ifCond .eq 14, 0),
  (7, .aload_n 0, 1, .aload 0, 0),
  (8, .invokevirtual 273, 3, .invokevirtual 123, 7123),
  (11, .ifCond .eq 7, 3, .ifCond .eq 7, 0),
  (18, .bipush (-2), 2, .iconst (-2), 0),
  (20, .ireturn, 1, .ireturn, 0)]
def q_m148 : q_MI := (⟨"SisterCountModel", "asksTold", "(IZ)I"⟩, prog_12_method_78_code, 10, (some .int), q_c148, (2, 45, 2, 0), (8064, 8063, 89, 1011))
def q_c149 : List q_I := [(0, .iload_n 0, 1, .iload 0, 0),
  (1, .i2l, 1, .i2l, 0),
  (2, .lconst 0, 1, .goto_w 0, 0),
  (3, .ldc2_w 501, 3, .jsr_w 3, 8068),
  (6, .invokestatic 94, 3, .invokestatic 109, 6212),
  (9, .ireturn, 1, .ireturn, 0)]
def q_m149 : q_MI := (⟨"SisterCountModel", "isSlot", "(I)Z"⟩, prog_12_method_151_code, 1, (some .boolean), q_c149, (1, 25, 1, 1), (8067, 8066, 0, 1011))
def q_c150 : List q_I := [(0, .aload_n 0, 1, .aload 0, 0),
  (1, .iload_n 1, 1, .iload 1, 0),
  (2, .iconst 1, 1, .iconst 1, 0),
  (3, .invokevirtual 381, 3, .invokevirtual 147, 8057),
  (6, .istore_n 2, 1, .istore 2, 0),
  (7, .iload_n 2, 1, .iload 2, 0),
  (8, .ifCond .ge 5, 3, .ifCond .ge 5, 0),
  (11, .iload_n 2, 1, .iload 2, 0),
  (12, .ireturn, 1, .ireturn, 0)]
def q_m150 : q_MI := (⟨"SisterCountModel", "greatest", "(I)I"⟩, prog_12_method_86_code, 4, (some .int), q_c150, (4, 97, 1, 0), (8093, 8091, 8092, 1011))
def q_c151 : List q_I := [(0, .aload_n 0, 1, .aload 0, 0),
  (1, .iload_n 1, 1, .iload 1, 0),
  (2, .iconst 1, 1, .iconst 1, 0),
  (3, .invokevirtual 381, 3, .invokevirtual 147, 8057),
  (6, .istore_n 2, 1, .istore 2, 0),
  (7, .iload_n 2, 1, .iload 2, 0),
  (8, .ifCond .ge 7, 3, .ifCond .ge 7, 0),
  (11, .iload_n 2, 1, .iload 2, 0),
  (12, .goto 7, 3, .goto 7, 0),
  (19, .ireturn, 1, .ireturn, 0)]
def q_m151 : q_MI := (⟨"SisterCountModel", "joinings", "(I)I"⟩, prog_12_method_87_code, 3, (some .int), q_c151, (4, 97, 1, 0), (8097, 8095, 8096, 1011))
def q_c152 : List q_I := [(0, .aload_n 0, 1, .aload 0, 0),
  (1, .iload_n 1, 1, .iload 1, 0),
  (2, .iconst 1, 1, .iconst 1, 0),
  (3, .invokevirtual 381, 3, .invokevirtual 147, 8057),
  (6, .istore_n 3, 1, .istore 3, 0),
  (7, .iload_n 3, 1, .iload 3, 0),
  (8, .ifCond .ge 7, 3, .ifCond .ge 7, 0),
  (11, .iload_n 3, 1, .iload 3, 0),
  (12, .goto 24, 3, .goto 24, 0),
  (36, .ireturn, 1, .ireturn, 0)]
def q_m152 : q_MI := (⟨"SisterCountModel", "by", "(II)I"⟩, prog_12_method_88_code, 4, (some .int), q_c152, (4, 97, 2, 0), (8105, 8103, 8104, 1011))
def q_c153 : List q_I := [(0, .aload_n 0, 1, .aload 0, 0),
  (1, .iload_n 1, 1, .iload 1, 0),
  (2, .iload_n 2, 1, .iload 2, 0),
  (3, .i2l, 1, .i2l, 0),
  (4, .lconst 0, 1, .goto_w 0, 0),
  (5, .lconst 1, 1, .goto_w 1, 0),
  (6, .invokestatic 94, 3, .invokestatic 109, 6212),
  (9, .invokevirtual 381, 3, .invokevirtual 147, 8057),
  (12, .istore_n 3, 1, .istore 3, 0),
  (13, .iload_n 3, 1, .iload 3, 0),
  (14, .ifCond .ge 5, 3, .ifCond .ge 5, 0),
  (17, .iload_n 3, 1, .iload 3, 0),
  (18, .ireturn, 1, .ireturn, 0)]
def q_m153 : q_MI := (⟨"SisterCountModel", "likely", "(II)I"⟩, prog_12_method_89_code, 7, (some .int), q_c153, (4, 97, 2, 0), (8110, 8108, 8109, 1011))
def q_c154 : List q_I := [(0, .aload_n 0, 1, .aload 0, 0),
  (1, .iload_n 1, 1, .iload 1, 0),
  (2, .iconst 1, 1, .iconst 1, 0),
  (3, .invokevirtual 381, 3, .invokevirtual 147, 8057),
  (6, .istore 4, 2, .istore 4, 0),
  (8, .iload 4, 2, .iload 4, 0),
  (10, .ifCond .ge 6, 3, .ifCond .ge 6, 0),
  (13, .iload 4, 2, .iload 4, 0),
  (15, .ireturn, 1, .ireturn, 0)]
def q_m154 : q_MI := (⟨"SisterCountModel", "joined", "(III)I"⟩, prog_12_method_90_code, 5, (some .int), q_c154, (4, 97, 3, 0), (8114, 8112, 8113, 1011))
def q_c155 : List q_I := [(0, .aload_n 0, 1, .aload 0, 0),
  (1, .iload_n 1, 1, .iload 1, 0),
  (2, .iload_n 2, 1, .iload 2, 0),
  (3, .i2l, 1, .i2l, 0),
  (4, .lconst 0, 1, .goto_w 0, 0),
  (5, .lconst 1, 1, .goto_w 1, 0),
  (6, .invokestatic 94, 3, .invokestatic 109, 6212),
  (9, .invokevirtual 381, 3, .invokevirtual 147, 8057),
  (12, .istore_n 3, 1, .istore 3, 0),
  (13, .iconst 1, 1, .iconst 1, 0),
  (14, .aload_n 0, 1, .aload 0, 0),
  (15, .getfield 349, 3, .getfield 659, 6101),
  (18, .ishl, 1, .ishl, 0),
  (19, .iconst 1, 1, .iconst 1, 0),
  (20, .isub, 1, .isub, 0),
  (21, .istore 4, 2, .istore 4, 0),
  (23, .iload_n 3, 1, .iload 3, 0),
  (24, .ifCond .ge 7, 3, .ifCond .ge 7, 0),
  (27, .iload_n 3, 1, .iload 3, 0),
  (28, .goto 24, 3, .goto 24, 0),
  (52, .ireturn, 1, .ireturn, 0)]
def q_m155 : q_MI := (⟨"SisterCountModel", "daughters", "(II)I"⟩, prog_12_method_91_code, 5, (some .int), q_c155, (4, 97, 2, 0), (8118, 8116, 8117, 1011))
def q_c156 : List q_I := [(0, .aload_n 0, 1, .aload 0, 0),
  (1, .iload_n 1, 1, .iload 1, 0),
  (2, .iconst 1, 1, .iconst 1, 0),
  (3, .invokevirtual 374, 3, .invokevirtual 148, 8061),
  (6, .istore_n 2, 1, .istore 2, 0),
  (7, .iload_n 2, 1, .iload 2, 0),
  (8, .ifCond .ge 5, 3, .ifCond .ge 5, 0),
  (11, .iload_n 2, 1, .iload 2, 0),
  (12, .ireturn, 1, .ireturn, 0)]
def q_m156 : q_MI := (⟨"SisterCountModel", "sorts", "(I)I"⟩, prog_12_method_92_code, 7, (some .int), q_c156, (3, 74, 1, 0), (8122, 8120, 8121, 1011))
def q_c157 : List q_I := [(0, .aload_n 0, 1, .aload 0, 0),
  (1, .iload_n 1, 1, .iload 1, 0),
  (2, .invokevirtual 392, 3, .invokevirtual 158, 8127),
  (5, .istore_n 2, 1, .istore 2, 0),
  (6, .iload_n 2, 1, .iload 2, 0),
  (7, .ifCond .ge 7, 3, .ifCond .ge 7, 0),
  (10, .iload_n 2, 1, .iload 2, 0),
  (11, .goto 9, 3, .goto 9, 0),
  (20, .ireturn, 1, .ireturn, 0)]
def q_m157 : q_MI := (⟨"SisterCountModel", "wrong", "(I)I"⟩, prog_12_method_96_code, 3, (some .int), q_c157, (3, 67, 1, 0), (8126, 8124, 8125, 1011))
def q_c158 : List q_I := [(0, .iload_n 1, 1, .iload 1, 0),
  (1, .invokestatic 346, 3, .invokestatic 149, 8065),
  (4, .ifCond .eq 10, 3, .ifCond .eq 10, 0),
  (7, .aload_n 0, 1, .aload 0, 0),
  (8, .invokevirtual 273, 3, .invokevirtual 123, 7123),
  (11, .ifCond .ne 6, 3, .ifCond .ne 6, 0),
  (14, .bipush (-2), 2, .iconst (-2), 0),
  (16, .ireturn, 1, .ireturn, 0)]
def q_m158 : q_MI := (⟨"SisterCountModel", "asksHeard", "(I)I"⟩, prog_12_method_93_code, 3, (some .int), q_c158, (2, 45, 1, 0), (8130, 8129, 96, 1011))
def q_c159 : List q_I := [(0, .aload_n 0, 1, .aload 0, 0),
  (1, .iload_n 1, 1, .iload 1, 0),
  (2, .invokevirtual 392, 3, .invokevirtual 158, 8127),
  (5, .istore_n 2, 1, .istore 2, 0),
  (6, .iload_n 2, 1, .iload 2, 0),
  (7, .ifCond .ge 5, 3, .ifCond .ge 5, 0),
  (10, .iload_n 2, 1, .iload 2, 0),
  (11, .ireturn, 1, .ireturn, 0)]
def q_m159 : q_MI := (⟨"SisterCountModel", "bold", "(I)I"⟩, prog_12_method_97_code, 5, (some .int), q_c159, (3, 67, 1, 0), (8142, 8140, 8141, 1011))
def q_c160 : List q_I := [(0, .aload_n 0, 1, .aload 0, 0),
  (1, .iload_n 1, 1, .iload 1, 0),
  (2, .i2l, 1, .i2l, 0),
  (3, .invokevirtual 252, 3, .invokevirtual 119, 7081),
  (6, .ifCond .eq 12, 3, .ifCond .eq 12, 0),
  (18, .bipush (-2), 2, .iconst (-2), 0),
  (20, .ireturn, 1, .ireturn, 0)]
def q_m160 : q_MI := (⟨"SisterCountModel", "hidden", "(II)I"⟩, prog_12_method_98_code, 5, (some .int), q_c160, (2, 47, 2, 0), (8146, 8144, 8145, 1011))
def q_c161 : List q_I := [(0, .aload_n 0, 1, .aload 0, 0),
  (1, .invokevirtual 273, 3, .invokevirtual 123, 7123),
  (4, .ifCond .eq 15, 3, .ifCond .eq 15, 0),
  (19, .bipush (-2), 2, .iconst (-2), 0),
  (21, .ireturn, 1, .ireturn, 0)]
def q_m161 : q_MI := (⟨"SisterCountModel", "bread", "(I)I"⟩, prog_12_method_99_code, 5, (some .int), q_c161, (1, 20, 1, 0), (8150, 8148, 8149, 1011))
def q_c162 : List q_I := [(0, .aload_n 0, 1, .aload 0, 0),
  (1, .invokevirtual 273, 3, .invokevirtual 123, 7123),
  (4, .ifCond .eq 21, 3, .ifCond .eq 21, 0),
  (25, .bipush (-2), 2, .iconst (-2), 0),
  (27, .ireturn, 1, .ireturn, 0)]
def q_m162 : q_MI := (⟨"SisterCountModel", "marriages", "(I)I"⟩, prog_12_method_106_code, 2, (some .int), q_c162, (1, 20, 1, 0), (8154, 8152, 8153, 1011))
def q_c163 : List q_I := [(0, .aload_n 0, 1, .aload 0, 0),
  (1, .iload_n 1, 1, .iload 1, 0),
  (2, .invokevirtual 262, 3, .invokevirtual 121, 7094),
  (5, .ifCond .eq 34, 3, .ifCond .eq 34, 0),
  (39, .bipush (-2), 2, .iconst (-2), 0),
  (41, .ireturn, 1, .ireturn, 0)]
def q_m163 : q_MI := (⟨"SisterCountModel", "between", "(III)I"⟩, prog_12_method_107_code, 4, (some .int), q_c163, (2, 46, 3, 0), (8183, 8181, 8182, 1011))
def q_c164 : List q_I := [(0, .aload_n 0, 1, .aload 0, 0),
  (1, .iload_n 1, 1, .iload 1, 0),
  (2, .i2l, 1, .i2l, 0),
  (3, .invokevirtual 252, 3, .invokevirtual 119, 7081),
  (6, .ifCond .eq 10, 3, .ifCond .eq 10, 0),
  (16, .bipush (-2), 2, .iconst (-2), 0),
  (18, .ireturn, 1, .ireturn, 0)]
def q_m164 : q_MI := (⟨"SisterCountModel", "suits", "(II)I"⟩, prog_12_method_108_code, 5, (some .int), q_c164, (2, 47, 2, 0), (8187, 8185, 8186, 1011))
def q_c165 : List q_I := [(0, .aload_n 0, 1, .aload 0, 0),
  (1, .iload_n 1, 1, .iload 1, 0),
  (2, .i2l, 1, .i2l, 0),
  (3, .invokevirtual 252, 3, .invokevirtual 119, 7081),
  (6, .ifCond .eq 10, 3, .ifCond .eq 10, 0),
  (16, .bipush (-2), 2, .iconst (-2), 0),
  (18, .ireturn, 1, .ireturn, 0)]
def q_m165 : q_MI := (⟨"SisterCountModel", "sought", "(II)I"⟩, prog_12_method_109_code, 3, (some .int), q_c165, (2, 47, 2, 0), (8191, 8189, 8190, 1011))
def q_c166 : List q_I := [(0, .aload_n 0, 1, .aload 0, 0),
  (1, .iload_n 1, 1, .iload 1, 0),
  (2, .invokevirtual 262, 3, .invokevirtual 121, 7094),
  (5, .ifCond .eq 21, 3, .ifCond .eq 21, 0),
  (26, .bipush (-2), 2, .iconst (-2), 0),
  (28, .ireturn, 1, .ireturn, 0)]
def q_m166 : q_MI := (⟨"SisterCountModel", "heir", "(III)I"⟩, prog_12_method_114_code, 4, (some .int), q_c166, (2, 46, 3, 0), (8195, 8193, 8194, 1011))
def q_c167 : List q_I := [(0, .aload_n 0, 1, .aload 0, 0),
  (1, .iload_n 1, 1, .iload 1, 0),
  (2, .i2l, 1, .i2l, 0),
  (3, .invokevirtual 252, 3, .invokevirtual 119, 7081),
  (6, .ifCond .eq 11, 3, .ifCond .eq 11, 0),
  (17, .bipush (-2), 2, .iconst (-2), 0),
  (19, .goto 23, 3, .goto 23, 0),
  (42, .ireturn, 1, .ireturn, 0)]
def q_m167 : q_MI := (⟨"SisterCountModel", "place", "(II)I"⟩, prog_12_method_115_code, 3, (some .int), q_c167, (2, 47, 2, 0), (8215, 8213, 8214, 1011))
def q_c168 : List q_I := [(0, .aload_n 0, 1, .aload 0, 0),
  (1, .invokevirtual 273, 3, .invokevirtual 123, 7123),
  (4, .ifCond .eq 19, 3, .ifCond .eq 19, 0),
  (23, .bipush (-2), 2, .iconst (-2), 0),
  (25, .ireturn, 1, .ireturn, 0)]
def q_m168 : q_MI := (⟨"SisterCountModel", "quarrel", "(II)I"⟩, prog_12_method_116_code, 5, (some .int), q_c168, (1, 20, 2, 0), (8219, 8217, 8218, 1011))
def q_c169 : List q_I := [(0, .aload_n 0, 1, .aload 0, 0),
  (1, .iload_n 1, 1, .iload 1, 0),
  (2, .invokevirtual 262, 3, .invokevirtual 121, 7094),
  (5, .ifCond .eq 19, 3, .ifCond .eq 19, 0),
  (24, .bipush (-2), 2, .iconst (-2), 0),
  (26, .ireturn, 1, .ireturn, 0)]
def q_m169 : q_MI := (⟨"SisterCountModel", "beds", "(II)I"⟩, prog_12_method_119_code, 3, (some .int), q_c169, (2, 46, 2, 0), (8223, 8221, 8222, 1011))
def q_c170 : List q_I := [(0, .aload_n 0, 1, .aload 0, 0),
  (1, .iload_n 1, 1, .iload 1, 0),
  (2, .invokevirtual 262, 3, .invokevirtual 121, 7094),
  (5, .ifCond .eq 7, 3, .ifCond .eq 7, 0),
  (12, .bipush (-2), 2, .iconst (-2), 0),
  (14, .ireturn, 1, .ireturn, 0)]
def q_m170 : q_MI := (⟨"SisterCountModel", "squeeze", "(II)I"⟩, prog_12_method_120_code, 4, (some .int), q_c170, (2, 46, 2, 0), (8235, 8233, 8234, 1011))
def q_c171 : List q_I := [(0, .aload_n 0, 1, .aload 0, 0),
  (1, .invokevirtual 273, 3, .invokevirtual 123, 7123),
  (4, .ifCond .eq 10, 3, .ifCond .eq 10, 0),
  (14, .bipush (-2), 2, .iconst (-2), 0),
  (16, .ireturn, 1, .ireturn, 0)]
def q_m171 : q_MI := (⟨"SisterCountModel", "census", "(I)I"⟩, prog_12_method_122_code, 4, (some .int), q_c171, (1, 20, 1, 0), (8239, 8237, 8238, 1011))
def q_c172 : List q_I := [(0, .aload_n 0, 1, .aload 0, 0),
  (1, .invokevirtual 273, 3, .invokevirtual 123, 7123),
  (4, .ifCond .eq 10, 3, .ifCond .eq 10, 0),
  (14, .bipush (-2), 2, .iconst (-2), 0),
  (16, .ireturn, 1, .ireturn, 0)]
def q_m172 : q_MI := (⟨"SisterCountModel", "off", "(I)I"⟩, prog_12_method_123_code, 6, (some .int), q_c172, (1, 20, 1, 0), (9007, 9005, 9006, 1011))
def q_c173 : List q_I := [(0, .aload_n 0, 1, .aload 0, 0),
  (1, .iload_n 1, 1, .iload 1, 0),
  (2, .i2l, 1, .i2l, 0),
  (3, .invokevirtual 252, 3, .invokevirtual 119, 7081),
  (6, .ifCond .ne 6, 3, .ifCond .ne 6, 0),
  (9, .bipush (-2), 2, .iconst (-2), 0),
  (11, .ireturn, 1, .ireturn, 0)]
def q_m173 : q_MI := (⟨"SisterCountModel", "twins", "(I)I"⟩, prog_12_method_124_code, 4, (some .int), q_c173, (2, 47, 1, 0), (9011, 9009, 9010, 1011))
def q_c174 : List q_I := [(0, .aload_n 0, 1, .aload 0, 0),
  (1, .iload_n 1, 1, .iload 1, 0),
  (2, .invokevirtual 262, 3, .invokevirtual 121, 7094),
  (5, .ifCond .eq 13, 3, .ifCond .eq 13, 0),
  (18, .ldc2_w 298, 3, .jsr_w (-2), 7186),
  (21, .lreturn, 1, .lreturn, 0)]
def q_m174 : q_MI := (⟨"SisterCountModel", "age", "(II)J"⟩, prog_12_method_125_code, 6, (some .long), q_c174, (2, 46, 2, 0), (9015, 9013, 9014, 1011))
def q_c175 : List q_I := [(0, .aload_n 0, 1, .aload 0, 0),
  (1, .invokevirtual 273, 3, .invokevirtual 123, 7123),
  (4, .ifCond .eq 15, 3, .ifCond .eq 15, 0),
  (19, .bipush (-2), 2, .iconst (-2), 0),
  (21, .ireturn, 1, .ireturn, 0)]
def q_m175 : q_MI := (⟨"SisterCountModel", "later", "(I)I"⟩, prog_12_method_127_code, 4, (some .int), q_c175, (1, 20, 1, 0), (9019, 9017, 9018, 1011))
def q_c176 : List q_I := [(0, .aload_n 0, 1, .aload 0, 0),
  (1, .invokevirtual 273, 3, .invokevirtual 123, 7123),
  (4, .ifCond .ne 6, 3, .ifCond .ne 6, 0),
  (7, .bipush (-2), 2, .iconst (-2), 0),
  (9, .ireturn, 1, .ireturn, 0)]
def q_m176 : q_MI := (⟨"SisterCountModel", "school", "()I"⟩, prog_12_method_128_code, 6, (some .int), q_c176, (1, 20, 0, 0), (9027, 9025, 9026, 1011))
def q_c177 : List q_I := [(0, .aload_n 0, 1, .aload 0, 0),
  (1, .iload_n 1, 1, .iload 1, 0),
  (2, .i2l, 1, .i2l, 0),
  (3, .invokevirtual 252, 3, .invokevirtual 119, 7081),
  (6, .ifCond .ne 6, 3, .ifCond .ne 6, 0),
  (9, .bipush (-2), 2, .iconst (-2), 0),
  (11, .ireturn, 1, .ireturn, 0)]
def q_m177 : q_MI := (⟨"SisterCountModel", "fits", "(I)I"⟩, prog_12_method_129_code, 5, (some .int), q_c177, (2, 47, 1, 0), (9031, 9029, 9030, 1011))
def q_c178 : List q_I := [(0, .aload_n 0, 1, .aload 0, 0),
  (1, .invokevirtual 273, 3, .invokevirtual 123, 7123),
  (4, .ifCond .ne 6, 3, .ifCond .ne 6, 0),
  (7, .bipush (-2), 2, .iconst (-2), 0),
  (9, .ireturn, 1, .ireturn, 0)]
def q_m178 : q_MI := (⟨"SisterCountModel", "enough", "()I"⟩, prog_12_method_130_code, 6, (some .int), q_c178, (1, 20, 0, 0), (9035, 9033, 9034, 1011))
def q_c179 : List q_I := [(0, .aload_n 0, 1, .aload 0, 0),
  (1, .iload_n 1, 1, .iload 1, 0),
  (2, .invokevirtual 262, 3, .invokevirtual 121, 7094),
  (5, .ifCond .eq 13, 3, .ifCond .eq 13, 0),
  (18, .bipush (-2), 2, .iconst (-2), 0),
  (20, .ireturn, 1, .ireturn, 0)]
def q_m179 : q_MI := (⟨"SisterCountModel", "share", "(II)I"⟩, prog_12_method_131_code, 4, (some .int), q_c179, (2, 46, 2, 0), (9039, 9037, 9038, 1011))
def q_c180 : List q_I := [(0, .aload_n 0, 1, .aload 0, 0),
  (1, .invokevirtual 273, 3, .invokevirtual 123, 7123),
  (4, .ifCond .ne 6, 3, .ifCond .ne 6, 0),
  (7, .bipush (-2), 2, .iconst (-2), 0),
  (9, .ireturn, 1, .ireturn, 0)]
def q_m180 : q_MI := (⟨"SisterCountModel", "heavy", "()I"⟩, prog_12_method_132_code, 3, (some .int), q_c180, (1, 20, 0, 0), (9043, 9041, 9042, 1011))
def q_c181 : List q_I := [(0, .aload_n 0, 1, .aload 0, 0),
  (1, .invokevirtual 273, 3, .invokevirtual 123, 7123),
  (4, .ifCond .ne 6, 3, .ifCond .ne 6, 0),
  (7, .bipush (-2), 2, .iconst (-2), 0),
  (9, .ireturn, 1, .ireturn, 0)]
def q_m181 : q_MI := (⟨"SisterCountModel", "only", "()I"⟩, prog_12_method_133_code, 3, (some .int), q_c181, (1, 20, 0, 0), (9047, 9045, 9046, 1011))
def q_c182 : List q_I := [(0, .aload_n 0, 1, .aload 0, 0),
  (1, .invokevirtual 273, 3, .invokevirtual 123, 7123),
  (4, .ifCond .eq 10, 3, .ifCond .eq 10, 0),
  (14, .bipush (-2), 2, .iconst (-2), 0),
  (16, .ireturn, 1, .ireturn, 0)]
def q_m182 : q_MI := (⟨"SisterCountModel", "eldest", "(I)I"⟩, prog_12_method_134_code, 4, (some .int), q_c182, (1, 20, 1, 0), (9051, 9049, 9050, 1011))
def q_c183 : List q_I := [(0, .aload_n 0, 1, .aload 0, 0),
  (1, .iload_n 1, 1, .iload 1, 0),
  (2, .invokevirtual 262, 3, .invokevirtual 121, 7094),
  (5, .ifCond .ne 6, 3, .ifCond .ne 6, 0),
  (8, .bipush (-2), 2, .iconst (-2), 0),
  (10, .ireturn, 1, .ireturn, 0)]
def q_m183 : q_MI := (⟨"SisterCountModel", "spread", "(I)I"⟩, prog_12_method_135_code, 5, (some .int), q_c183, (2, 46, 1, 0), (9055, 9053, 9054, 1011))
def q_c184 : List q_I := [(0, .aload_n 0, 1, .aload 0, 0),
  (1, .iload_n 1, 1, .iload 1, 0),
  (2, .i2l, 1, .i2l, 0),
  (3, .invokevirtual 279, 3, .invokevirtual 126, 7135),
  (6, .ifCond .ne 6, 3, .ifCond .ne 6, 0),
  (9, .bipush (-2), 2, .iconst (-2), 0),
  (11, .ireturn, 1, .ireturn, 0)]
def q_m184 : q_MI := (⟨"SisterCountModel", "clash", "(I)I"⟩, prog_12_method_136_code, 6, (some .int), q_c184, (2, 47, 1, 0), (9059, 9057, 9058, 1011))
def q_c185 : List q_I := [(0, .aload_n 0, 1, .aload 0, 0),
  (1, .invokevirtual 273, 3, .invokevirtual 123, 7123),
  (4, .ifCond .eq 32, 3, .ifCond .eq 32, 0),
  (36, .bipush (-2), 2, .iconst (-2), 0),
  (38, .ireturn, 1, .ireturn, 0)]
def q_m185 : q_MI := (⟨"SisterCountModel", "panel", "(III)I"⟩, prog_12_method_139_code, 9, (some .int), q_c185, (1, 20, 3, 0), (9063, 9061, 9062, 1011))
def q_c186 : List q_I := [(0, .aload_n 0, 1, .aload 0, 0),
  (1, .invokevirtual 273, 3, .invokevirtual 123, 7123),
  (4, .ifCond .eq 10, 3, .ifCond .eq 10, 0),
  (14, .bipush (-2), 2, .iconst (-2), 0),
  (16, .ireturn, 1, .ireturn, 0)]
def q_m186 : q_MI := (⟨"SisterCountModel", "just", "(I)I"⟩, prog_12_method_140_code, 4, (some .int), q_c186, (1, 20, 1, 0), (9077, 9075, 9076, 1011))
def q_c187 : List q_I := [(0, .aload_n 0, 1, .aload 0, 0),
  (1, .iload_n 1, 1, .iload 1, 0),
  (2, .i2l, 1, .i2l, 0),
  (3, .invokevirtual 252, 3, .invokevirtual 119, 7081),
  (6, .ifCond .eq 18, 3, .ifCond .eq 18, 0),
  (24, .bipush (-2), 2, .iconst (-2), 0),
  (26, .ireturn, 1, .ireturn, 0)]
def q_m187 : q_MI := (⟨"SisterCountModel", "less", "(II)I"⟩, prog_12_method_141_code, 4, (some .int), q_c187, (2, 47, 2, 0), (9081, 9079, 9080, 1011))
def q_c188 : List q_I := [(0, .aload_n 0, 1, .aload 0, 0),
  (1, .iload_n 1, 1, .iload 1, 0),
  (2, .i2l, 1, .i2l, 0),
  (3, .invokevirtual 252, 3, .invokevirtual 119, 7081),
  (6, .ifCond .eq 34, 3, .ifCond .eq 34, 0),
  (40, .ldc_w 467, 3, .sipush (-1000000), 9086),
  (43, .ireturn, 1, .ireturn, 0)]
def q_m188 : q_MI := (⟨"SisterCountModel", "changed", "(III)I"⟩, prog_12_method_143_code, 6, (some .int), q_c188, (2, 47, 3, 0), (9085, 9083, 9084, 1011))
def q_c189 : List q_I := [(0, .aload_n 0, 1, .aload 0, 0),
  (1, .iload_n 1, 1, .iload 1, 0),
  (2, .iload_n 2, 1, .iload 2, 0),
  (3, .invokevirtual 491, 3, .invokevirtual 190, 9095),
  (6, .ifCond .eq 15, 3, .ifCond .eq 15, 0),
  (21, .bipush (-2), 2, .iconst (-2), 0),
  (23, .ireturn, 1, .ireturn, 0)]
def q_m189 : q_MI := (⟨"SisterCountModel", "drawn", "(III)I"⟩, prog_12_method_148_code, 5, (some .int), q_c189, (2, 42, 3, 0), (9094, 9092, 9093, 1011))
def q_c190 : List q_I := [(0, .aload_n 0, 1, .aload 0, 0),
  (1, .invokevirtual 273, 3, .invokevirtual 123, 7123),
  (4, .ifCond .eq 31, 3, .ifCond .eq 31, 0),
  (35, .iconst 0, 1, .iconst 0, 0),
  (36, .ireturn, 1, .ireturn, 0)]
def q_m190 : q_MI := (⟨"SisterCountModel", "isDrawn", "(II)Z"⟩, prog_12_method_147_code, 3, (some .boolean), q_c190, (1, 20, 2, 0), (9098, 9097, 115, 1011))
def q_c191 : List q_I := [(0, .aload_n 0, 1, .aload 0, 0),
  (1, .iload_n 1, 1, .iload 1, 0),
  (2, .iload_n 3, 1, .iload 3, 0),
  (3, .invokevirtual 491, 3, .invokevirtual 190, 9095),
  (6, .ifCond .eq 24, 3, .ifCond .eq 24, 0),
  (30, .bipush (-2), 2, .iconst (-2), 0),
  (32, .ireturn, 1, .ireturn, 0)]
def q_m191 : q_MI := (⟨"SisterCountModel", "seen", "(IIII)I"⟩, prog_12_method_149_code, 7, (some .int), q_c191, (2, 42, 4, 0), (9120, 9118, 9119, 1011))
def q_c192 : List q_I := [(0, .iconst 0, 1, .iconst 0, 0),
  (1, .istore_n 2, 1, .istore 2, 0),
  (2, .iload_n 1, 1, .iload 1, 0),
  (3, .tableswitch 149 0 9 #[53, 60, 67, 74, 81, 88, 96, 103, 108, 116], 53, .tableswitch 149 0 9 #[53, 60, 67, 74, 81, 88, 96, 103, 108, 116], 0),
  (56, .aload_n 0, 1, .aload 0, 0),
  (57, .getfield 9, 3, .getfield 641, 6083),
  (60, .iconst 0, 1, .iconst 0, 0),
  (61, .iaload, 1, .iaload, 0),
  (62, .ireturn, 1, .ireturn, 0),
  (63, .aload_n 0, 1, .aload 0, 0),
  (64, .getfield 9, 3, .getfield 641, 6083),
  (67, .iconst 1, 1, .iconst 1, 0),
  (68, .iaload, 1, .iaload, 0),
  (69, .ireturn, 1, .ireturn, 0),
  (70, .aload_n 0, 1, .aload 0, 0),
  (71, .getfield 9, 3, .getfield 641, 6083),
  (74, .iconst 2, 1, .iconst 2, 0),
  (75, .iaload, 1, .iaload, 0),
  (76, .ireturn, 1, .ireturn, 0),
  (77, .aload_n 0, 1, .aload 0, 0),
  (78, .getfield 9, 3, .getfield 641, 6083),
  (81, .iconst 3, 1, .iconst 3, 0),
  (82, .iaload, 1, .iaload, 0),
  (83, .ireturn, 1, .ireturn, 0),
  (84, .aload_n 0, 1, .aload 0, 0),
  (85, .getfield 9, 3, .getfield 641, 6083),
  (88, .iconst 4, 1, .iconst 4, 0),
  (89, .iaload, 1, .iaload, 0),
  (90, .ireturn, 1, .ireturn, 0),
  (91, .aload_n 0, 1, .aload 0, 0),
  (92, .invokevirtual 276, 3, .invokevirtual 124, 7127),
  (95, .invokestatic 302, 3, .invokestatic 131, 7188),
  (98, .ireturn, 1, .ireturn, 0),
  (99, .aload_n 0, 1, .aload 0, 0),
  (100, .getfield 9, 3, .getfield 641, 6083),
  (103, .iconst 5, 1, .iconst 5, 0),
  (104, .iaload, 1, .iaload, 0),
  (105, .ireturn, 1, .ireturn, 0),
  (106, .aload_n 0, 1, .aload 0, 0),
  (107, .getfield 98, 3, .getfield 645, 6087),
  (110, .ireturn, 1, .ireturn, 0),
  (111, .aload_n 0, 1, .aload 0, 0),
  (112, .getfield 9, 3, .getfield 641, 6083),
  (115, .bipush 6, 2, .iconst 6, 0),
  (117, .iaload, 1, .iaload, 0),
  (118, .ireturn, 1, .ireturn, 0),
  (119, .iconst 0, 1, .iconst 0, 0),
  (120, .istore_n 3, 1, .istore 3, 0),
  (121, .iload_n 3, 1, .iload 3, 0),
  (122, .iconst 4, 1, .iconst 4, 0),
  (123, .if_icmp .ge 27, 3, .if_icmp .ge 27, 0),
  (126, .iload_n 2, 1, .iload 2, 0),
  (127, .aload_n 0, 1, .aload 0, 0),
  (128, .getfield 76, 3, .getfield 677, 6119),
  (131, .iload_n 3, 1, .iload 3, 0),
  (132, .iaload, 1, .iaload, 0),
  (133, .iconst (-1), 1, .iconst (-1), 0),
  (134, .if_icmp .ne 7, 3, .if_icmp .ne 7, 0),
  (137, .iconst 0, 1, .iconst 0, 0),
  (138, .goto 4, 3, .goto 4, 0),
  (142, .iadd, 1, .iadd, 0),
  (143, .istore_n 2, 1, .istore 2, 0),
  (144, .iinc 3 1, 3, .iinc 3 1, 0),
  (147, .goto (-26), 3, .goto (-26), 0),
  (150, .iload_n 2, 1, .iload 2, 0),
  (151, .ireturn, 1, .ireturn, 0),
  (152, .iconst (-1), 1, .iconst (-1), 0),
  (153, .ireturn, 1, .ireturn, 0)]
def q_m192 : q_MI := (⟨"SisterCountModel", "count", "(I)I"⟩, prog_12_method_150_code, 4, (some .int), q_c192, (1, 22, 1, 0), (9124, 9122, 9123, 1011))
def q_c193 : List q_I := [(0, .iload_n 1, 1, .iload 1, 0),
  (1, .invokestatic 346, 3, .invokestatic 149, 8065),
  (4, .ifCond .eq 21, 3, .ifCond .eq 21, 0),
  (7, .iload_n 2, 1, .iload 2, 0),
  (8, .i2l, 1, .i2l, 0),
  (9, .lconst 0, 1, .goto_w 0, 0),
  (10, .ldc2_w 501, 3, .jsr_w 3, 8068),
  (13, .invokestatic 94, 3, .invokestatic 109, 6212),
  (16, .ifCond .eq 9, 3, .ifCond .eq 9, 0),
  (19, .iload_n 3, 1, .iload 3, 0),
  (20, .bipush 60, 2, .iconst 60, 0),
  (22, .if_icmp .le 6, 3, .if_icmp .le 6, 0),
  (25, .bipush (-2), 2, .iconst (-2), 0),
  (27, .ireturn, 1, .ireturn, 0),
  (28, .iload_n 3, 1, .iload 3, 0),
  (29, .ifCond .ge 6, 3, .ifCond .ge 6, 0),
  (32, .bipush (-3), 2, .iconst (-3), 0),
  (34, .ireturn, 1, .ireturn, 0),
  (35, .aload_n 0, 1, .aload 0, 0),
  (36, .getfield 76, 3, .getfield 677, 6119),
  (39, .iload_n 1, 1, .iload 1, 0),
  (40, .iload_n 3, 1, .iload 3, 0),
  (41, .iastore, 1, .iastore, 0),
  (42, .aload_n 0, 1, .aload 0, 0),
  (43, .getfield 79, 3, .getfield 678, 6120),
  (46, .iload_n 1, 1, .iload 1, 0),
  (47, .iload_n 2, 1, .iload 2, 0),
  (48, .iastore, 1, .iastore, 0),
  (49, .iconst 0, 1, .iconst 0, 0),
  (50, .istore 4, 2, .istore 4, 0),
  (52, .iload 4, 2, .iload 4, 0),
  (54, .bipush 60, 2, .iconst 60, 0),
  (56, .if_icmp .ge 22, 3, .if_icmp .ge 22, 0),
  (59, .aload_n 0, 1, .aload 0, 0),
  (60, .getfield 82, 3, .getfield 679, 6121),
  (63, .bipush 60, 2, .iconst 60, 0),
  (65, .iload_n 1, 1, .iload 1, 0),
  (66, .imul, 1, .imul, 0),
  (67, .iload 4, 2, .iload 4, 0),
  (69, .iadd, 1, .iadd, 0),
  (70, .lconst 0, 1, .goto_w 0, 0),
  (71, .lastore, 1, .lastore, 0),
  (72, .iinc 4 1, 3, .iinc 4 1, 0),
  (75, .goto (-23), 3, .goto (-23), 0),
  (78, .iconst 0, 1, .iconst 0, 0),
  (79, .ireturn, 1, .ireturn, 0)]
def q_m193 : q_MI := (⟨"SisterCountModel", "row", "(III)I"⟩, prog_12_method_153_code, 5, (some .int), q_c193, (2, 45, 3, 0), (9128, 9126, 9127, 1011))
def q_c194 : List q_I := [(0, .iload_n 1, 1, .iload 1, 0),
  (1, .invokestatic 346, 3, .invokestatic 149, 8065),
  (4, .ifCond .ne 6, 3, .ifCond .ne 6, 0),
  (7, .bipush (-2), 2, .iconst (-2), 0),
  (9, .ireturn, 1, .ireturn, 0),
  (10, .aload_n 0, 1, .aload 0, 0),
  (11, .getfield 76, 3, .getfield 677, 6119),
  (14, .iload_n 1, 1, .iload 1, 0),
  (15, .iaload, 1, .iaload, 0),
  (16, .iconst (-1), 1, .iconst (-1), 0),
  (17, .if_icmp .ne 6, 3, .if_icmp .ne 6, 0),
  (20, .bipush (-6), 2, .iconst (-6), 0),
  (22, .ireturn, 1, .ireturn, 0)]
def q_m194 : q_MI := (⟨"SisterCountModel", "write", "(IIJ)I"⟩, prog_12_method_154_code, 5, (some .int), q_c194, (2, 45, 3, 0), (9132, 9130, 9131, 1011))
def q_c195 : List q_I := [(0, .iload_n 1, 1, .iload 1, 0),
  (1, .invokestatic 346, 3, .invokestatic 149, 8065),
  (4, .ifCond .eq 10, 3, .ifCond .eq 10, 0),
  (7, .iload_n 3, 1, .iload 3, 0),
  (8, .invokestatic 346, 3, .invokestatic 149, 8065),
  (11, .ifCond .ne 6, 3, .ifCond .ne 6, 0),
  (14, .bipush (-2), 2, .iconst (-2), 0),
  (16, .ireturn, 1, .ireturn, 0),
  (17, .aload_n 0, 1, .aload 0, 0),
  (18, .getfield 76, 3, .getfield 677, 6119),
  (21, .iload_n 1, 1, .iload 1, 0),
  (22, .iaload, 1, .iaload, 0),
  (23, .iconst (-1), 1, .iconst (-1), 0),
  (24, .if_icmp .eq 13, 3, .if_icmp .eq 13, 0),
  (37, .bipush (-6), 2, .iconst (-6), 0),
  (39, .ireturn, 1, .ireturn, 0)]
def q_m195 : q_MI := (⟨"SisterCountModel", "paste", "(IIIII)I"⟩, prog_12_method_155_code, 7, (some .int), q_c195, (2, 45, 5, 0), (9139, 9137, 9138, 1011))
def q_ch0 : List q_MI := [q_m0, q_m1, q_m2, q_m3, q_m4, q_m5, q_m6, q_m7, q_m8, q_m9, q_m10, q_m11, q_m12, q_m13, q_m14, q_m15, q_m16, q_m17, q_m18, q_m19, q_m20, q_m21, q_m22, q_m23, q_m24, q_m25, q_m26, q_m27, q_m28, q_m29, q_m30, q_m31, q_m32, q_m33, q_m34, q_m35, q_m36, q_m37, q_m38, q_m39]
def q_ch1 : List q_MI := [q_m40, q_m41, q_m42, q_m43, q_m44, q_m45, q_m46, q_m47, q_m48, q_m49, q_m50, q_m51, q_m52, q_m53, q_m54, q_m55, q_m56, q_m57, q_m58, q_m59, q_m60, q_m61, q_m62, q_m63, q_m64, q_m65, q_m66, q_m67, q_m68, q_m69, q_m70, q_m71, q_m72, q_m73, q_m74, q_m75, q_m76, q_m77, q_m78, q_m79]
def q_ch2 : List q_MI := [q_m80, q_m81, q_m82, q_m83, q_m84, q_m85, q_m86, q_m87, q_m88, q_m89, q_m90, q_m91, q_m92, q_m93, q_m94, q_m95, q_m96, q_m97, q_m98, q_m99, q_m100, q_m101, q_m102, q_m103, q_m104, q_m105, q_m106, q_m107, q_m108, q_m109, q_m110, q_m111, q_m112, q_m113, q_m114, q_m115, q_m116, q_m117, q_m118, q_m119]
def q_ch3 : List q_MI := [q_m120, q_m121, q_m122, q_m123, q_m124, q_m125, q_m126, q_m127, q_m128, q_m129, q_m130, q_m131, q_m132, q_m133, q_m134, q_m135, q_m136, q_m137, q_m138, q_m139, q_m140, q_m141, q_m142, q_m143, q_m144, q_m145, q_m146, q_m147, q_m148, q_m149, q_m150, q_m151, q_m152, q_m153, q_m154, q_m155, q_m156, q_m157, q_m158, q_m159]
def q_ch4 : List q_MI := [q_m160, q_m161, q_m162, q_m163, q_m164, q_m165, q_m166, q_m167, q_m168, q_m169, q_m170, q_m171, q_m172, q_m173, q_m174, q_m175, q_m176, q_m177, q_m178, q_m179, q_m180, q_m181, q_m182, q_m183, q_m184, q_m185, q_m186, q_m187, q_m188, q_m189, q_m190, q_m191, q_m192, q_m193, q_m194, q_m195]
def q_dT : List (List Cond) := [k2_sels lw_privs, tables_1_1, tables_1_2, tables_1_3, tables_1_4, tables_1_5, tables_1_6, tables_1_7, tables_1_8, tables_1_9]
def q_dM : List q_MI := q_ch0 ++ q_ch1 ++ q_ch2 ++ q_ch3 ++ q_ch4
def q_D : q_G := (q_dT, vwCl, q_dY, q_dA, q_dM, q_dN)
set_option maxRecDepth 100000 in
def q_cL : List q_I := [(0, .new 7, 3, .new 9, 1020),
  (3, .dup, 1, .dup, 0),
  (4, .invokespecial 9, 3, .invokespecial 0, 1022),
  (7, .astore_n 1, 1, .astore 1, 0),
  (8, .new 10, 3, .new 10, 6077),
  (11, .dup, 1, .dup, 0),
  (12, .invokespecial 12, 3, .invokespecial 107, 6079),
  (15, .astore_n 2, 1, .astore 2, 0),
  (16, .iconst 0, 1, .iconst 0, 0),
  (17, .istore_n 3, 1, .istore 3, 0),
  (18, .iload_n 3, 1, .iload 3, 0),
  (19, .aload_n 0, 1, .aload 0, 0),
  (20, .arraylength, 1, .arraylength, 0),
  (21, .bipush 6, 2, .iconst 6, 0),
  (23, .isub, 1, .isub, 0),
  (24, .if_icmp .gt 2425, 3, .if_icmp .gt 2425, 0),
  (27, .aload_n 0, 1, .aload 0, 0),
  (28, .iload_n 3, 1, .iload 3, 0),
  (29, .iaload, 1, .iaload, 0),
  (30, .bipush 127, 2, .iconst 127, 0),
  (32, .iand, 1, .iand, 0),
  (33, .tableswitch 2410 0 72 #[307, 370, 393, 406, 429, 462, 495, 508, 541, 574, 597, 620, 654, 688, 722, 735, 758, 781, 804, 827, 850, 873, 886, 909, 932, 955, 978, 1001, 1024, 1047, 1080, 1113, 1156, 1189, 1212, 1235, 1258, 1291, 1314, 1337, 1380, 1413, 1446, 1489, 1522, 1555, 1588, 1621, 1644, 1667, 1690, 1724, 1747, 1760, 1783, 1796, 1829, 1842, 1855, 1878, 1901, 1924, 1957, 2000, 2023, 2066, 2109, 2162, 2185, 2208, 2231, 2274, 2347], 307, .tableswitch 2410 0 72 #[307, 370, 393, 406, 429, 462, 495, 508, 541, 574, 597, 620, 654, 688, 722, 735, 758, 781, 804, 827, 850, 873, 886, 909, 932, 955, 978, 1001, 1024, 1047, 1080, 1113, 1156, 1189, 1212, 1235, 1258, 1291, 1314, 1337, 1380, 1413, 1446, 1489, 1522, 1555, 1588, 1621, 1644, 1667, 1690, 1724, 1747, 1760, 1783, 1796, 1829, 1842, 1855, 1878, 1901, 1924, 1957, 2000, 2023, 2066, 2109, 2162, 2185, 2208, 2231, 2274, 2347], 0),
  (340, .aload_n 1, 1, .aload 1, 0),
  (341, .aload_n 0, 1, .aload 0, 0),
  (342, .iload_n 3, 1, .iload 3, 0),
  (343, .iconst 1, 1, .iconst 1, 0),
  (344, .iadd, 1, .iadd, 0),
  (345, .iaload, 1, .iaload, 0),
  (346, .aload_n 0, 1, .aload 0, 0),
  (347, .iload_n 3, 1, .iload 3, 0),
  (348, .iconst 2, 1, .iconst 2, 0),
  (349, .iadd, 1, .iadd, 0),
  (350, .iaload, 1, .iaload, 0),
  (351, .aload_n 0, 1, .aload 0, 0),
  (352, .iload_n 3, 1, .iload 3, 0),
  (353, .iconst 3, 1, .iconst 3, 0),
  (354, .iadd, 1, .iadd, 0),
  (355, .iaload, 1, .iaload, 0),
  (356, .aload_n 0, 1, .aload 0, 0),
  (357, .iload_n 3, 1, .iload 3, 0),
  (358, .iconst 4, 1, .iconst 4, 0),
  (359, .iadd, 1, .iadd, 0),
  (360, .iaload, 1, .iaload, 0),
  (361, .aload_n 0, 1, .aload 0, 0),
  (362, .iload_n 3, 1, .iload 3, 0),
  (363, .iconst 5, 1, .iconst 5, 0),
  (364, .iadd, 1, .iadd, 0),
  (365, .iaload, 1, .iaload, 0),
  (366, .invokevirtual 13, 3, .invokevirtual 10, 2106),
  (369, .aload_n 2, 1, .aload 2, 0),
  (370, .aload_n 0, 1, .aload 0, 0),
  (371, .iload_n 3, 1, .iload 3, 0),
  (372, .iconst 1, 1, .iconst 1, 0),
  (373, .iadd, 1, .iadd, 0),
  (374, .iaload, 1, .iaload, 0),
  (375, .aload_n 0, 1, .aload 0, 0),
  (376, .iload_n 3, 1, .iload 3, 0),
  (377, .iconst 2, 1, .iconst 2, 0),
  (378, .iadd, 1, .iadd, 0),
  (379, .iaload, 1, .iaload, 0),
  (380, .aload_n 0, 1, .aload 0, 0),
  (381, .iload_n 3, 1, .iload 3, 0),
  (382, .iconst 3, 1, .iconst 3, 0),
  (383, .iadd, 1, .iadd, 0),
  (384, .iaload, 1, .iaload, 0),
  (385, .aload_n 0, 1, .aload 0, 0),
  (386, .iload_n 3, 1, .iload 3, 0),
  (387, .iconst 4, 1, .iconst 4, 0),
  (388, .iadd, 1, .iadd, 0),
  (389, .iaload, 1, .iaload, 0),
  (390, .aload_n 0, 1, .aload 0, 0),
  (391, .iload_n 3, 1, .iload 3, 0),
  (392, .iconst 5, 1, .iconst 5, 0),
  (393, .iadd, 1, .iadd, 0),
  (394, .iaload, 1, .iaload, 0),
  (395, .invokevirtual 17, 3, .invokevirtual 111, 6219),
  (398, .if_icmp .eq 2045, 3, .if_icmp .eq 2045, 0),
  (401, .iconst 0, 1, .iconst 0, 0),
  (402, .ireturn, 1, .ireturn, 0),
  (403, .aload_n 1, 1, .aload 1, 0),
  (404, .aload_n 0, 1, .aload 0, 0),
  (405, .iload_n 3, 1, .iload 3, 0),
  (406, .iconst 1, 1, .iconst 1, 0),
  (407, .iadd, 1, .iadd, 0),
  (408, .iaload, 1, .iaload, 0),
  (409, .invokevirtual 18, 3, .invokevirtual 13, 2118),
  (412, .aload_n 2, 1, .aload 2, 0),
  (413, .aload_n 0, 1, .aload 0, 0),
  (414, .iload_n 3, 1, .iload 3, 0),
  (415, .iconst 1, 1, .iconst 1, 0),
  (416, .iadd, 1, .iadd, 0),
  (417, .iaload, 1, .iaload, 0),
  (418, .invokevirtual 22, 3, .invokevirtual 112, 6223),
  (421, .if_icmp .eq 2022, 3, .if_icmp .eq 2022, 0),
  (424, .iconst 0, 1, .iconst 0, 0),
  (425, .ireturn, 1, .ireturn, 0),
  (426, .aload_n 1, 1, .aload 1, 0),
  (427, .invokevirtual 23, 3, .invokevirtual 14, 2122),
  (430, .aload_n 2, 1, .aload 2, 0),
  (431, .invokevirtual 27, 3, .invokevirtual 114, 6231),
  (434, .if_icmp .eq 2009, 3, .if_icmp .eq 2009, 0),
  (437, .iconst 0, 1, .iconst 0, 0),
  (438, .ireturn, 1, .ireturn, 0),
  (439, .aload_n 1, 1, .aload 1, 0),
  (440, .aload_n 0, 1, .aload 0, 0),
  (441, .iload_n 3, 1, .iload 3, 0),
  (442, .iconst 1, 1, .iconst 1, 0),
  (443, .iadd, 1, .iadd, 0),
  (444, .iaload, 1, .iaload, 0),
  (445, .invokevirtual 28, 3, .invokevirtual 21, 3044),
  (448, .aload_n 2, 1, .aload 2, 0),
  (449, .aload_n 0, 1, .aload 0, 0),
  (450, .iload_n 3, 1, .iload 3, 0),
  (451, .iconst 1, 1, .iconst 1, 0),
  (452, .iadd, 1, .iadd, 0),
  (453, .iaload, 1, .iaload, 0),
  (454, .invokevirtual 31, 3, .invokevirtual 113, 6227),
  (457, .if_icmp .eq 1986, 3, .if_icmp .eq 1986, 0),
  (460, .iconst 0, 1, .iconst 0, 0),
  (461, .ireturn, 1, .ireturn, 0),
  (462, .aload_n 1, 1, .aload 1, 0),
  (463, .aload_n 0, 1, .aload 0, 0),
  (464, .iload_n 3, 1, .iload 3, 0),
  (465, .iconst 1, 1, .iconst 1, 0),
  (466, .iadd, 1, .iadd, 0),
  (467, .iaload, 1, .iaload, 0),
  (468, .aload_n 0, 1, .aload 0, 0),
  (469, .iload_n 3, 1, .iload 3, 0),
  (470, .iconst 2, 1, .iconst 2, 0),
  (471, .iadd, 1, .iadd, 0),
  (472, .iaload, 1, .iaload, 0),
  (473, .invokevirtual 32, 3, .invokevirtual 22, 3048),
  (476, .aload_n 2, 1, .aload 2, 0),
  (477, .aload_n 0, 1, .aload 0, 0),
  (478, .iload_n 3, 1, .iload 3, 0),
  (479, .iconst 1, 1, .iconst 1, 0),
  (480, .iadd, 1, .iadd, 0),
  (481, .iaload, 1, .iaload, 0),
  (482, .aload_n 0, 1, .aload 0, 0),
  (483, .iload_n 3, 1, .iload 3, 0),
  (484, .iconst 2, 1, .iconst 2, 0),
  (485, .iadd, 1, .iadd, 0),
  (486, .iaload, 1, .iaload, 0),
  (487, .invokevirtual 36, 3, .invokevirtual 118, 7077),
  (490, .if_icmp .eq 1953, 3, .if_icmp .eq 1953, 0),
  (493, .iconst 0, 1, .iconst 0, 0),
  (494, .ireturn, 1, .ireturn, 0),
  (495, .aload_n 1, 1, .aload 1, 0),
  (496, .aload_n 0, 1, .aload 0, 0),
  (497, .iload_n 3, 1, .iload 3, 0),
  (498, .iconst 1, 1, .iconst 1, 0),
  (499, .iadd, 1, .iadd, 0),
  (500, .iaload, 1, .iaload, 0),
  (501, .aload_n 0, 1, .aload 0, 0),
  (502, .iload_n 3, 1, .iload 3, 0),
  (503, .iconst 2, 1, .iconst 2, 0),
  (504, .iadd, 1, .iadd, 0),
  (505, .iaload, 1, .iaload, 0),
  (506, .invokevirtual 37, 3, .invokevirtual 24, 3056),
  (509, .aload_n 2, 1, .aload 2, 0),
  (510, .aload_n 0, 1, .aload 0, 0),
  (511, .iload_n 3, 1, .iload 3, 0),
  (512, .iconst 1, 1, .iconst 1, 0),
  (513, .iadd, 1, .iadd, 0),
  (514, .iaload, 1, .iaload, 0),
  (515, .aload_n 0, 1, .aload 0, 0),
  (516, .iload_n 3, 1, .iload 3, 0),
  (517, .iconst 2, 1, .iconst 2, 0),
  (518, .iadd, 1, .iadd, 0),
  (519, .iaload, 1, .iaload, 0),
  (520, .invokevirtual 40, 3, .invokevirtual 120, 7090),
  (523, .if_icmp .eq 1920, 3, .if_icmp .eq 1920, 0),
  (526, .iconst 0, 1, .iconst 0, 0),
  (527, .ireturn, 1, .ireturn, 0),
  (528, .aload_n 1, 1, .aload 1, 0),
  (529, .invokevirtual 41, 3, .invokevirtual 28, 3095),
  (532, .aload_n 2, 1, .aload 2, 0),
  (533, .invokevirtual 44, 3, .invokevirtual 122, 7119),
  (536, .if_icmp .eq 1907, 3, .if_icmp .eq 1907, 0),
  (539, .iconst 0, 1, .iconst 0, 0),
  (540, .ireturn, 1, .ireturn, 0),
  (541, .aload_n 1, 1, .aload 1, 0),
  (542, .aload_n 0, 1, .aload 0, 0),
  (543, .iload_n 3, 1, .iload 3, 0),
  (544, .iconst 1, 1, .iconst 1, 0),
  (545, .iadd, 1, .iadd, 0),
  (546, .iaload, 1, .iaload, 0),
  (547, .aload_n 0, 1, .aload 0, 0),
  (548, .iload_n 3, 1, .iload 3, 0),
  (549, .iconst 2, 1, .iconst 2, 0),
  (550, .iadd, 1, .iadd, 0),
  (551, .iaload, 1, .iaload, 0),
  (552, .invokevirtual 45, 3, .invokevirtual 30, 3104),
  (555, .aload_n 2, 1, .aload 2, 0),
  (556, .aload_n 0, 1, .aload 0, 0),
  (557, .iload_n 3, 1, .iload 3, 0),
  (558, .iconst 1, 1, .iconst 1, 0),
  (559, .iadd, 1, .iadd, 0),
  (560, .iaload, 1, .iaload, 0),
  (561, .aload_n 0, 1, .aload 0, 0),
  (562, .iload_n 3, 1, .iload 3, 0),
  (563, .iconst 2, 1, .iconst 2, 0),
  (564, .iadd, 1, .iadd, 0),
  (565, .iaload, 1, .iaload, 0),
  (566, .invokevirtual 48, 3, .invokevirtual 125, 7131),
  (569, .if_icmp .eq 1874, 3, .if_icmp .eq 1874, 0),
  (572, .iconst 0, 1, .iconst 0, 0),
  (573, .ireturn, 1, .ireturn, 0),
  (574, .aload_n 1, 1, .aload 1, 0),
  (575, .aload_n 0, 1, .aload 0, 0),
  (576, .iload_n 3, 1, .iload 3, 0),
  (577, .iconst 1, 1, .iconst 1, 0),
  (578, .iadd, 1, .iadd, 0),
  (579, .iaload, 1, .iaload, 0),
  (580, .aload_n 0, 1, .aload 0, 0),
  (581, .iload_n 3, 1, .iload 3, 0),
  (582, .iconst 2, 1, .iconst 2, 0),
  (583, .iadd, 1, .iadd, 0),
  (584, .iaload, 1, .iaload, 0),
  (585, .invokevirtual 49, 3, .invokevirtual 32, 3124),
  (588, .aload_n 2, 1, .aload 2, 0),
  (589, .aload_n 0, 1, .aload 0, 0),
  (590, .iload_n 3, 1, .iload 3, 0),
  (591, .iconst 1, 1, .iconst 1, 0),
  (592, .iadd, 1, .iadd, 0),
  (593, .iaload, 1, .iaload, 0),
  (594, .aload_n 0, 1, .aload 0, 0),
  (595, .iload_n 3, 1, .iload 3, 0),
  (596, .iconst 2, 1, .iconst 2, 0),
  (597, .iadd, 1, .iadd, 0),
  (598, .iaload, 1, .iaload, 0),
  (599, .invokevirtual 52, 3, .invokevirtual 127, 7155),
  (602, .if_icmp .eq 1841, 3, .if_icmp .eq 1841, 0),
  (605, .iconst 0, 1, .iconst 0, 0),
  (606, .ireturn, 1, .ireturn, 0),
  (607, .aload_n 1, 1, .aload 1, 0),
  (608, .aload_n 0, 1, .aload 0, 0),
  (609, .iload_n 3, 1, .iload 3, 0),
  (610, .iconst 1, 1, .iconst 1, 0),
  (611, .iadd, 1, .iadd, 0),
  (612, .iaload, 1, .iaload, 0),
  (613, .invokevirtual 53, 3, .invokevirtual 33, 3134),
  (616, .aload_n 2, 1, .aload 2, 0),
  (617, .aload_n 0, 1, .aload 0, 0),
  (618, .iload_n 3, 1, .iload 3, 0),
  (619, .iconst 1, 1, .iconst 1, 0),
  (620, .iadd, 1, .iadd, 0),
  (621, .iaload, 1, .iaload, 0),
  (622, .invokevirtual 56, 3, .invokevirtual 128, 7163),
  (625, .if_icmp .eq 1818, 3, .if_icmp .eq 1818, 0),
  (628, .iconst 0, 1, .iconst 0, 0),
  (629, .ireturn, 1, .ireturn, 0),
  (630, .aload_n 1, 1, .aload 1, 0),
  (631, .aload_n 0, 1, .aload 0, 0),
  (632, .iload_n 3, 1, .iload 3, 0),
  (633, .iconst 1, 1, .iconst 1, 0),
  (634, .iadd, 1, .iadd, 0),
  (635, .iaload, 1, .iaload, 0),
  (636, .invokevirtual 57, 3, .invokevirtual 35, 3152),
  (639, .aload_n 2, 1, .aload 2, 0),
  (640, .aload_n 0, 1, .aload 0, 0),
  (641, .iload_n 3, 1, .iload 3, 0),
  (642, .iconst 1, 1, .iconst 1, 0),
  (643, .iadd, 1, .iadd, 0),
  (644, .iaload, 1, .iaload, 0),
  (645, .invokevirtual 60, 3, .invokevirtual 129, 7174),
  (648, .if_icmp .eq 1795, 3, .if_icmp .eq 1795, 0),
  (651, .iconst 0, 1, .iconst 0, 0),
  (652, .ireturn, 1, .ireturn, 0),
  (653, .aload_n 1, 1, .aload 1, 0),
  (654, .aload_n 0, 1, .aload 0, 0),
  (655, .iload_n 3, 1, .iload 3, 0),
  (656, .iconst 1, 1, .iconst 1, 0),
  (657, .iadd, 1, .iadd, 0),
  (658, .iaload, 1, .iaload, 0),
  (659, .aload_n 0, 1, .aload 0, 0),
  (660, .iload_n 3, 1, .iload 3, 0),
  (661, .iconst 2, 1, .iconst 2, 0),
  (662, .iadd, 1, .iadd, 0),
  (663, .iaload, 1, .iaload, 0),
  (664, .invokevirtual 61, 3, .invokevirtual 36, 3160),
  (667, .aload_n 2, 1, .aload 2, 0),
  (668, .aload_n 0, 1, .aload 0, 0),
  (669, .iload_n 3, 1, .iload 3, 0),
  (670, .iconst 1, 1, .iconst 1, 0),
  (671, .iadd, 1, .iadd, 0),
  (672, .iaload, 1, .iaload, 0),
  (673, .aload_n 0, 1, .aload 0, 0),
  (674, .iload_n 3, 1, .iload 3, 0),
  (675, .iconst 2, 1, .iconst 2, 0),
  (676, .iadd, 1, .iadd, 0),
  (677, .iaload, 1, .iaload, 0),
  (678, .invokevirtual 65, 3, .invokevirtual 130, 7182),
  (681, .lcmp, 1, .lcmp, 0),
  (682, .ifCond .eq 1761, 3, .ifCond .eq 1761, 0),
  (685, .iconst 0, 1, .iconst 0, 0),
  (686, .ireturn, 1, .ireturn, 0),
  (687, .aload_n 1, 1, .aload 1, 0),
  (688, .aload_n 0, 1, .aload 0, 0),
  (689, .iload_n 3, 1, .iload 3, 0),
  (690, .iconst 1, 1, .iconst 1, 0),
  (691, .iadd, 1, .iadd, 0),
  (692, .iaload, 1, .iaload, 0),
  (693, .aload_n 0, 1, .aload 0, 0),
  (694, .iload_n 3, 1, .iload 3, 0),
  (695, .iconst 2, 1, .iconst 2, 0),
  (696, .iadd, 1, .iadd, 0),
  (697, .iaload, 1, .iaload, 0),
  (698, .invokevirtual 66, 3, .invokevirtual 38, 3182),
  (701, .aload_n 2, 1, .aload 2, 0),
  (702, .aload_n 0, 1, .aload 0, 0),
  (703, .iload_n 3, 1, .iload 3, 0),
  (704, .iconst 1, 1, .iconst 1, 0),
  (705, .iadd, 1, .iadd, 0),
  (706, .iaload, 1, .iaload, 0),
  (707, .aload_n 0, 1, .aload 0, 0),
  (708, .iload_n 3, 1, .iload 3, 0),
  (709, .iconst 2, 1, .iconst 2, 0),
  (710, .iadd, 1, .iadd, 0),
  (711, .iaload, 1, .iaload, 0),
  (712, .invokevirtual 69, 3, .invokevirtual 132, 7197),
  (715, .lcmp, 1, .lcmp, 0),
  (716, .ifCond .eq 1727, 3, .ifCond .eq 1727, 0),
  (719, .iconst 0, 1, .iconst 0, 0),
  (720, .ireturn, 1, .ireturn, 0),
  (721, .aload_n 1, 1, .aload 1, 0),
  (722, .aload_n 0, 1, .aload 0, 0),
  (723, .iload_n 3, 1, .iload 3, 0),
  (724, .iconst 1, 1, .iconst 1, 0),
  (725, .iadd, 1, .iadd, 0),
  (726, .iaload, 1, .iaload, 0),
  (727, .aload_n 0, 1, .aload 0, 0),
  (728, .iload_n 3, 1, .iload 3, 0),
  (729, .iconst 2, 1, .iconst 2, 0),
  (730, .iadd, 1, .iadd, 0),
  (731, .iaload, 1, .iaload, 0),
  (732, .invokevirtual 70, 3, .invokevirtual 39, 3187),
  (735, .aload_n 2, 1, .aload 2, 0),
  (736, .aload_n 0, 1, .aload 0, 0),
  (737, .iload_n 3, 1, .iload 3, 0),
  (738, .iconst 1, 1, .iconst 1, 0),
  (739, .iadd, 1, .iadd, 0),
  (740, .iaload, 1, .iaload, 0),
  (741, .aload_n 0, 1, .aload 0, 0),
  (742, .iload_n 3, 1, .iload 3, 0),
  (743, .iconst 2, 1, .iconst 2, 0),
  (744, .iadd, 1, .iadd, 0),
  (745, .iaload, 1, .iaload, 0),
  (746, .invokevirtual 73, 3, .invokevirtual 133, 7203),
  (749, .lcmp, 1, .lcmp, 0),
  (750, .ifCond .eq 1693, 3, .ifCond .eq 1693, 0),
  (753, .iconst 0, 1, .iconst 0, 0),
  (754, .ireturn, 1, .ireturn, 0),
  (755, .aload_n 1, 1, .aload 1, 0),
  (756, .invokevirtual 74, 3, .invokevirtual 49, 4058),
  (759, .aload_n 2, 1, .aload 2, 0),
  (760, .invokevirtual 77, 3, .invokevirtual 134, 7207),
  (763, .if_icmp .eq 1680, 3, .if_icmp .eq 1680, 0),
  (766, .iconst 0, 1, .iconst 0, 0),
  (767, .ireturn, 1, .ireturn, 0),
  (768, .aload_n 1, 1, .aload 1, 0),
  (769, .aload_n 0, 1, .aload 0, 0),
  (770, .iload_n 3, 1, .iload 3, 0),
  (771, .iconst 1, 1, .iconst 1, 0),
  (772, .iadd, 1, .iadd, 0),
  (773, .iaload, 1, .iaload, 0),
  (774, .invokevirtual 78, 3, .invokevirtual 50, 4062),
  (777, .aload_n 2, 1, .aload 2, 0),
  (778, .aload_n 0, 1, .aload 0, 0),
  (779, .iload_n 3, 1, .iload 3, 0),
  (780, .iconst 1, 1, .iconst 1, 0),
  (781, .iadd, 1, .iadd, 0),
  (782, .iaload, 1, .iaload, 0),
  (783, .invokevirtual 81, 3, .invokevirtual 135, 7211),
  (786, .if_icmp .eq 1657, 3, .if_icmp .eq 1657, 0),
  (789, .iconst 0, 1, .iconst 0, 0),
  (790, .ireturn, 1, .ireturn, 0),
  (791, .aload_n 1, 1, .aload 1, 0),
  (792, .aload_n 0, 1, .aload 0, 0),
  (793, .iload_n 3, 1, .iload 3, 0),
  (794, .iconst 1, 1, .iconst 1, 0),
  (795, .iadd, 1, .iadd, 0),
  (796, .iaload, 1, .iaload, 0),
  (797, .invokevirtual 82, 3, .invokevirtual 51, 4075),
  (800, .aload_n 2, 1, .aload 2, 0),
  (801, .aload_n 0, 1, .aload 0, 0),
  (802, .iload_n 3, 1, .iload 3, 0),
  (803, .iconst 1, 1, .iconst 1, 0),
  (804, .iadd, 1, .iadd, 0),
  (805, .iaload, 1, .iaload, 0),
  (806, .invokevirtual 85, 3, .invokevirtual 136, 7219),
  (809, .if_icmp .eq 1634, 3, .if_icmp .eq 1634, 0),
  (812, .iconst 0, 1, .iconst 0, 0),
  (813, .ireturn, 1, .ireturn, 0),
  (814, .aload_n 1, 1, .aload 1, 0),
  (815, .aload_n 0, 1, .aload 0, 0),
  (816, .iload_n 3, 1, .iload 3, 0),
  (817, .iconst 1, 1, .iconst 1, 0),
  (818, .iadd, 1, .iadd, 0),
  (819, .iaload, 1, .iaload, 0),
  (820, .invokevirtual 86, 3, .invokevirtual 52, 4079),
  (823, .aload_n 2, 1, .aload 2, 0),
  (824, .aload_n 0, 1, .aload 0, 0),
  (825, .iload_n 3, 1, .iload 3, 0),
  (826, .iconst 1, 1, .iconst 1, 0),
  (827, .iadd, 1, .iadd, 0),
  (828, .iaload, 1, .iaload, 0),
  (829, .invokevirtual 89, 3, .invokevirtual 137, 7223),
  (832, .if_icmp .eq 1611, 3, .if_icmp .eq 1611, 0),
  (835, .iconst 0, 1, .iconst 0, 0),
  (836, .ireturn, 1, .ireturn, 0),
  (837, .aload_n 1, 1, .aload 1, 0),
  (838, .aload_n 0, 1, .aload 0, 0),
  (839, .iload_n 3, 1, .iload 3, 0),
  (840, .iconst 1, 1, .iconst 1, 0),
  (841, .iadd, 1, .iadd, 0),
  (842, .iaload, 1, .iaload, 0),
  (843, .invokevirtual 90, 3, .invokevirtual 61, 4134),
  (846, .aload_n 2, 1, .aload 2, 0),
  (847, .aload_n 0, 1, .aload 0, 0),
  (848, .iload_n 3, 1, .iload 3, 0),
  (849, .iconst 1, 1, .iconst 1, 0),
  (850, .iadd, 1, .iadd, 0),
  (851, .iaload, 1, .iaload, 0),
  (852, .invokevirtual 93, 3, .invokevirtual 138, 7228),
  (855, .if_icmp .eq 1588, 3, .if_icmp .eq 1588, 0),
  (858, .iconst 0, 1, .iconst 0, 0),
  (859, .ireturn, 1, .ireturn, 0),
  (860, .aload_n 1, 1, .aload 1, 0),
  (861, .aload_n 0, 1, .aload 0, 0),
  (862, .iload_n 3, 1, .iload 3, 0),
  (863, .iconst 1, 1, .iconst 1, 0),
  (864, .iadd, 1, .iadd, 0),
  (865, .iaload, 1, .iaload, 0),
  (866, .invokevirtual 94, 3, .invokevirtual 62, 4142),
  (869, .aload_n 2, 1, .aload 2, 0),
  (870, .aload_n 0, 1, .aload 0, 0),
  (871, .iload_n 3, 1, .iload 3, 0),
  (872, .iconst 1, 1, .iconst 1, 0),
  (873, .iadd, 1, .iadd, 0),
  (874, .iaload, 1, .iaload, 0),
  (875, .invokevirtual 97, 3, .invokevirtual 139, 7236),
  (878, .if_icmp .eq 1565, 3, .if_icmp .eq 1565, 0),
  (881, .iconst 0, 1, .iconst 0, 0),
  (882, .ireturn, 1, .ireturn, 0),
  (883, .aload_n 1, 1, .aload 1, 0),
  (884, .aload_n 0, 1, .aload 0, 0),
  (885, .iload_n 3, 1, .iload 3, 0),
  (886, .iconst 1, 1, .iconst 1, 0),
  (887, .iadd, 1, .iadd, 0),
  (888, .iaload, 1, .iaload, 0),
  (889, .invokevirtual 98, 3, .invokevirtual 63, 4165),
  (892, .aload_n 2, 1, .aload 2, 0),
  (893, .aload_n 0, 1, .aload 0, 0),
  (894, .iload_n 3, 1, .iload 3, 0),
  (895, .iconst 1, 1, .iconst 1, 0),
  (896, .iadd, 1, .iadd, 0),
  (897, .iaload, 1, .iaload, 0),
  (898, .invokevirtual 101, 3, .invokevirtual 140, 8004),
  (901, .if_icmp .eq 1542, 3, .if_icmp .eq 1542, 0),
  (904, .iconst 0, 1, .iconst 0, 0),
  (905, .ireturn, 1, .ireturn, 0),
  (906, .aload_n 1, 1, .aload 1, 0),
  (907, .invokevirtual 102, 3, .invokevirtual 64, 4174),
  (910, .aload_n 2, 1, .aload 2, 0),
  (911, .invokevirtual 105, 3, .invokevirtual 141, 8017),
  (914, .if_icmp .eq 1529, 3, .if_icmp .eq 1529, 0),
  (917, .iconst 0, 1, .iconst 0, 0),
  (918, .ireturn, 1, .ireturn, 0),
  (919, .aload_n 1, 1, .aload 1, 0),
  (920, .aload_n 0, 1, .aload 0, 0),
  (921, .iload_n 3, 1, .iload 3, 0),
  (922, .iconst 1, 1, .iconst 1, 0),
  (923, .iadd, 1, .iadd, 0),
  (924, .iaload, 1, .iaload, 0),
  (925, .invokevirtual 106, 3, .invokevirtual 65, 4178),
  (928, .aload_n 2, 1, .aload 2, 0),
  (929, .aload_n 0, 1, .aload 0, 0),
  (930, .iload_n 3, 1, .iload 3, 0),
  (931, .iconst 1, 1, .iconst 1, 0),
  (932, .iadd, 1, .iadd, 0),
  (933, .iaload, 1, .iaload, 0),
  (934, .invokevirtual 109, 3, .invokevirtual 142, 8021),
  (937, .if_icmp .eq 1506, 3, .if_icmp .eq 1506, 0),
  (940, .iconst 0, 1, .iconst 0, 0),
  (941, .ireturn, 1, .ireturn, 0),
  (942, .aload_n 1, 1, .aload 1, 0),
  (943, .aload_n 0, 1, .aload 0, 0),
  (944, .iload_n 3, 1, .iload 3, 0),
  (945, .iconst 1, 1, .iconst 1, 0),
  (946, .iadd, 1, .iadd, 0),
  (947, .iaload, 1, .iaload, 0),
  (948, .invokevirtual 110, 3, .invokevirtual 66, 4199),
  (951, .aload_n 2, 1, .aload 2, 0),
  (952, .aload_n 0, 1, .aload 0, 0),
  (953, .iload_n 3, 1, .iload 3, 0),
  (954, .iconst 1, 1, .iconst 1, 0),
  (955, .iadd, 1, .iadd, 0),
  (956, .iaload, 1, .iaload, 0),
  (957, .invokevirtual 113, 3, .invokevirtual 143, 8041),
  (960, .if_icmp .eq 1483, 3, .if_icmp .eq 1483, 0),
  (963, .iconst 0, 1, .iconst 0, 0),
  (964, .ireturn, 1, .ireturn, 0),
  (965, .aload_n 1, 1, .aload 1, 0),
  (966, .aload_n 0, 1, .aload 0, 0),
  (967, .iload_n 3, 1, .iload 3, 0),
  (968, .iconst 1, 1, .iconst 1, 0),
  (969, .iadd, 1, .iadd, 0),
  (970, .iaload, 1, .iaload, 0),
  (971, .invokevirtual 114, 3, .invokevirtual 67, 4203),
  (974, .aload_n 2, 1, .aload 2, 0),
  (975, .aload_n 0, 1, .aload 0, 0),
  (976, .iload_n 3, 1, .iload 3, 0),
  (977, .iconst 1, 1, .iconst 1, 0),
  (978, .iadd, 1, .iadd, 0),
  (979, .iaload, 1, .iaload, 0),
  (980, .invokevirtual 117, 3, .invokevirtual 144, 8045),
  (983, .if_icmp .eq 1460, 3, .if_icmp .eq 1460, 0),
  (986, .iconst 0, 1, .iconst 0, 0),
  (987, .ireturn, 1, .ireturn, 0),
  (988, .aload_n 1, 1, .aload 1, 0),
  (989, .aload_n 0, 1, .aload 0, 0),
  (990, .iload_n 3, 1, .iload 3, 0),
  (991, .iconst 1, 1, .iconst 1, 0),
  (992, .iadd, 1, .iadd, 0),
  (993, .iaload, 1, .iaload, 0),
  (994, .invokevirtual 118, 3, .invokevirtual 68, 4212),
  (997, .aload_n 2, 1, .aload 2, 0),
  (998, .aload_n 0, 1, .aload 0, 0),
  (999, .iload_n 3, 1, .iload 3, 0),
  (1000, .iconst 1, 1, .iconst 1, 0),
  (1001, .iadd, 1, .iadd, 0),
  (1002, .iaload, 1, .iaload, 0),
  (1003, .invokevirtual 121, 3, .invokevirtual 145, 8049),
  (1006, .if_icmp .eq 1437, 3, .if_icmp .eq 1437, 0),
  (1009, .iconst 0, 1, .iconst 0, 0),
  (1010, .ireturn, 1, .ireturn, 0),
  (1011, .aload_n 1, 1, .aload 1, 0),
  (1012, .aload_n 0, 1, .aload 0, 0),
  (1013, .iload_n 3, 1, .iload 3, 0),
  (1014, .iconst 1, 1, .iconst 1, 0),
  (1015, .iadd, 1, .iadd, 0),
  (1016, .iaload, 1, .iaload, 0),
  (1017, .invokevirtual 122, 3, .invokevirtual 72, 4237),
  (1020, .aload_n 2, 1, .aload 2, 0),
  (1021, .aload_n 0, 1, .aload 0, 0),
  (1022, .iload_n 3, 1, .iload 3, 0),
  (1023, .iconst 1, 1, .iconst 1, 0),
  (1024, .iadd, 1, .iadd, 0),
  (1025, .iaload, 1, .iaload, 0),
  (1026, .invokevirtual 125, 3, .invokevirtual 146, 8053),
  (1029, .if_icmp .eq 1414, 3, .if_icmp .eq 1414, 0),
  (1032, .iconst 0, 1, .iconst 0, 0),
  (1033, .ireturn, 1, .ireturn, 0),
  (1034, .aload_n 1, 1, .aload 1, 0),
  (1035, .aload_n 0, 1, .aload 0, 0),
  (1036, .iload_n 3, 1, .iload 3, 0),
  (1037, .iconst 1, 1, .iconst 1, 0),
  (1038, .iadd, 1, .iadd, 0),
  (1039, .iaload, 1, .iaload, 0),
  (1040, .invokevirtual 126, 3, .invokevirtual 77, 5073),
  (1043, .aload_n 2, 1, .aload 2, 0),
  (1044, .aload_n 0, 1, .aload 0, 0),
  (1045, .iload_n 3, 1, .iload 3, 0),
  (1046, .iconst 1, 1, .iconst 1, 0),
  (1047, .iadd, 1, .iadd, 0),
  (1048, .iaload, 1, .iaload, 0),
  (1049, .invokevirtual 129, 3, .invokevirtual 150, 8090),
  (1052, .if_icmp .eq 1391, 3, .if_icmp .eq 1391, 0),
  (1055, .iconst 0, 1, .iconst 0, 0),
  (1056, .ireturn, 1, .ireturn, 0),
  (1057, .aload_n 1, 1, .aload 1, 0),
  (1058, .aload_n 0, 1, .aload 0, 0),
  (1059, .iload_n 3, 1, .iload 3, 0),
  (1060, .iconst 1, 1, .iconst 1, 0),
  (1061, .iadd, 1, .iadd, 0),
  (1062, .iaload, 1, .iaload, 0),
  (1063, .invokevirtual 130, 3, .invokevirtual 78, 5077),
  (1066, .aload_n 2, 1, .aload 2, 0),
  (1067, .aload_n 0, 1, .aload 0, 0),
  (1068, .iload_n 3, 1, .iload 3, 0),
  (1069, .iconst 1, 1, .iconst 1, 0),
  (1070, .iadd, 1, .iadd, 0),
  (1071, .iaload, 1, .iaload, 0),
  (1072, .invokevirtual 133, 3, .invokevirtual 151, 8094),
  (1075, .if_icmp .eq 1368, 3, .if_icmp .eq 1368, 0),
  (1078, .iconst 0, 1, .iconst 0, 0),
  (1079, .ireturn, 1, .ireturn, 0),
  (1080, .aload_n 1, 1, .aload 1, 0),
  (1081, .aload_n 0, 1, .aload 0, 0),
  (1082, .iload_n 3, 1, .iload 3, 0),
  (1083, .iconst 1, 1, .iconst 1, 0),
  (1084, .iadd, 1, .iadd, 0),
  (1085, .iaload, 1, .iaload, 0),
  (1086, .aload_n 0, 1, .aload 0, 0),
  (1087, .iload_n 3, 1, .iload 3, 0),
  (1088, .iconst 2, 1, .iconst 2, 0),
  (1089, .iadd, 1, .iadd, 0),
  (1090, .iaload, 1, .iaload, 0),
  (1091, .invokevirtual 134, 3, .invokevirtual 79, 5085),
  (1094, .aload_n 2, 1, .aload 2, 0),
  (1095, .aload_n 0, 1, .aload 0, 0),
  (1096, .iload_n 3, 1, .iload 3, 0),
  (1097, .iconst 1, 1, .iconst 1, 0),
  (1098, .iadd, 1, .iadd, 0),
  (1099, .iaload, 1, .iaload, 0),
  (1100, .aload_n 0, 1, .aload 0, 0),
  (1101, .iload_n 3, 1, .iload 3, 0),
  (1102, .iconst 2, 1, .iconst 2, 0),
  (1103, .iadd, 1, .iadd, 0),
  (1104, .iaload, 1, .iaload, 0),
  (1105, .invokevirtual 137, 3, .invokevirtual 152, 8102),
  (1108, .if_icmp .eq 1335, 3, .if_icmp .eq 1335, 0),
  (1111, .iconst 0, 1, .iconst 0, 0),
  (1112, .ireturn, 1, .ireturn, 0),
  (1113, .aload_n 1, 1, .aload 1, 0),
  (1114, .aload_n 0, 1, .aload 0, 0),
  (1115, .iload_n 3, 1, .iload 3, 0),
  (1116, .iconst 1, 1, .iconst 1, 0),
  (1117, .iadd, 1, .iadd, 0),
  (1118, .iaload, 1, .iaload, 0),
  (1119, .aload_n 0, 1, .aload 0, 0),
  (1120, .iload_n 3, 1, .iload 3, 0),
  (1121, .iconst 2, 1, .iconst 2, 0),
  (1122, .iadd, 1, .iadd, 0),
  (1123, .iaload, 1, .iaload, 0),
  (1124, .invokevirtual 138, 3, .invokevirtual 80, 5093),
  (1127, .aload_n 2, 1, .aload 2, 0),
  (1128, .aload_n 0, 1, .aload 0, 0),
  (1129, .iload_n 3, 1, .iload 3, 0),
  (1130, .iconst 1, 1, .iconst 1, 0),
  (1131, .iadd, 1, .iadd, 0),
  (1132, .iaload, 1, .iaload, 0),
  (1133, .aload_n 0, 1, .aload 0, 0),
  (1134, .iload_n 3, 1, .iload 3, 0),
  (1135, .iconst 2, 1, .iconst 2, 0),
  (1136, .iadd, 1, .iadd, 0),
  (1137, .iaload, 1, .iaload, 0),
  (1138, .invokevirtual 141, 3, .invokevirtual 153, 8107),
  (1141, .if_icmp .eq 1302, 3, .if_icmp .eq 1302, 0),
  (1144, .iconst 0, 1, .iconst 0, 0),
  (1145, .ireturn, 1, .ireturn, 0),
  (1146, .aload_n 1, 1, .aload 1, 0),
  (1147, .aload_n 0, 1, .aload 0, 0),
  (1148, .iload_n 3, 1, .iload 3, 0),
  (1149, .iconst 1, 1, .iconst 1, 0),
  (1150, .iadd, 1, .iadd, 0),
  (1151, .iaload, 1, .iaload, 0),
  (1152, .aload_n 0, 1, .aload 0, 0),
  (1153, .iload_n 3, 1, .iload 3, 0),
  (1154, .iconst 2, 1, .iconst 2, 0),
  (1155, .iadd, 1, .iadd, 0),
  (1156, .iaload, 1, .iaload, 0),
  (1157, .aload_n 0, 1, .aload 0, 0),
  (1158, .iload_n 3, 1, .iload 3, 0),
  (1159, .iconst 3, 1, .iconst 3, 0),
  (1160, .iadd, 1, .iadd, 0),
  (1161, .iaload, 1, .iaload, 0),
  (1162, .invokevirtual 142, 3, .invokevirtual 81, 5101),
  (1165, .aload_n 2, 1, .aload 2, 0),
  (1166, .aload_n 0, 1, .aload 0, 0),
  (1167, .iload_n 3, 1, .iload 3, 0),
  (1168, .iconst 1, 1, .iconst 1, 0),
  (1169, .iadd, 1, .iadd, 0),
  (1170, .iaload, 1, .iaload, 0),
  (1171, .aload_n 0, 1, .aload 0, 0),
  (1172, .iload_n 3, 1, .iload 3, 0),
  (1173, .iconst 2, 1, .iconst 2, 0),
  (1174, .iadd, 1, .iadd, 0),
  (1175, .iaload, 1, .iaload, 0),
  (1176, .aload_n 0, 1, .aload 0, 0),
  (1177, .iload_n 3, 1, .iload 3, 0),
  (1178, .iconst 3, 1, .iconst 3, 0),
  (1179, .iadd, 1, .iadd, 0),
  (1180, .iaload, 1, .iaload, 0),
  (1181, .invokevirtual 146, 3, .invokevirtual 154, 8111),
  (1184, .if_icmp .eq 1259, 3, .if_icmp .eq 1259, 0),
  (1187, .iconst 0, 1, .iconst 0, 0),
  (1188, .ireturn, 1, .ireturn, 0),
  (1189, .aload_n 1, 1, .aload 1, 0),
  (1190, .aload_n 0, 1, .aload 0, 0),
  (1191, .iload_n 3, 1, .iload 3, 0),
  (1192, .iconst 1, 1, .iconst 1, 0),
  (1193, .iadd, 1, .iadd, 0),
  (1194, .iaload, 1, .iaload, 0),
  (1195, .aload_n 0, 1, .aload 0, 0),
  (1196, .iload_n 3, 1, .iload 3, 0),
  (1197, .iconst 2, 1, .iconst 2, 0),
  (1198, .iadd, 1, .iadd, 0),
  (1199, .iaload, 1, .iaload, 0),
  (1200, .invokevirtual 147, 3, .invokevirtual 82, 5117),
  (1203, .aload_n 2, 1, .aload 2, 0),
  (1204, .aload_n 0, 1, .aload 0, 0),
  (1205, .iload_n 3, 1, .iload 3, 0),
  (1206, .iconst 1, 1, .iconst 1, 0),
  (1207, .iadd, 1, .iadd, 0),
  (1208, .iaload, 1, .iaload, 0),
  (1209, .aload_n 0, 1, .aload 0, 0),
  (1210, .iload_n 3, 1, .iload 3, 0),
  (1211, .iconst 2, 1, .iconst 2, 0),
  (1212, .iadd, 1, .iadd, 0),
  (1213, .iaload, 1, .iaload, 0),
  (1214, .invokevirtual 150, 3, .invokevirtual 155, 8115),
  (1217, .if_icmp .eq 1226, 3, .if_icmp .eq 1226, 0),
  (1220, .iconst 0, 1, .iconst 0, 0),
  (1221, .ireturn, 1, .ireturn, 0),
  (1222, .aload_n 1, 1, .aload 1, 0),
  (1223, .aload_n 0, 1, .aload 0, 0),
  (1224, .iload_n 3, 1, .iload 3, 0),
  (1225, .iconst 1, 1, .iconst 1, 0),
  (1226, .iadd, 1, .iadd, 0),
  (1227, .iaload, 1, .iaload, 0),
  (1228, .invokevirtual 151, 3, .invokevirtual 83, 5133),
  (1231, .aload_n 2, 1, .aload 2, 0),
  (1232, .aload_n 0, 1, .aload 0, 0),
  (1233, .iload_n 3, 1, .iload 3, 0),
  (1234, .iconst 1, 1, .iconst 1, 0),
  (1235, .iadd, 1, .iadd, 0),
  (1236, .iaload, 1, .iaload, 0),
  (1237, .invokevirtual 154, 3, .invokevirtual 156, 8119),
  (1240, .if_icmp .eq 1203, 3, .if_icmp .eq 1203, 0),
  (1243, .iconst 0, 1, .iconst 0, 0),
  (1244, .ireturn, 1, .ireturn, 0),
  (1245, .aload_n 1, 1, .aload 1, 0),
  (1246, .aload_n 0, 1, .aload 0, 0),
  (1247, .iload_n 3, 1, .iload 3, 0),
  (1248, .iconst 1, 1, .iconst 1, 0),
  (1249, .iadd, 1, .iadd, 0),
  (1250, .iaload, 1, .iaload, 0),
  (1251, .invokevirtual 155, 3, .invokevirtual 84, 5141),
  (1254, .aload_n 2, 1, .aload 2, 0),
  (1255, .aload_n 0, 1, .aload 0, 0),
  (1256, .iload_n 3, 1, .iload 3, 0),
  (1257, .iconst 1, 1, .iconst 1, 0),
  (1258, .iadd, 1, .iadd, 0),
  (1259, .iaload, 1, .iaload, 0),
  (1260, .invokevirtual 158, 3, .invokevirtual 157, 8123),
  (1263, .if_icmp .eq 1180, 3, .if_icmp .eq 1180, 0),
  (1266, .iconst 0, 1, .iconst 0, 0),
  (1267, .ireturn, 1, .ireturn, 0),
  (1268, .aload_n 1, 1, .aload 1, 0),
  (1269, .aload_n 0, 1, .aload 0, 0),
  (1270, .iload_n 3, 1, .iload 3, 0),
  (1271, .iconst 1, 1, .iconst 1, 0),
  (1272, .iadd, 1, .iadd, 0),
  (1273, .iaload, 1, .iaload, 0),
  (1274, .invokevirtual 159, 3, .invokevirtual 86, 5153),
  (1277, .aload_n 2, 1, .aload 2, 0),
  (1278, .aload_n 0, 1, .aload 0, 0),
  (1279, .iload_n 3, 1, .iload 3, 0),
  (1280, .iconst 1, 1, .iconst 1, 0),
  (1281, .iadd, 1, .iadd, 0),
  (1282, .iaload, 1, .iaload, 0),
  (1283, .invokevirtual 162, 3, .invokevirtual 159, 8139),
  (1286, .if_icmp .eq 1157, 3, .if_icmp .eq 1157, 0),
  (1289, .iconst 0, 1, .iconst 0, 0),
  (1290, .ireturn, 1, .ireturn, 0),
  (1291, .aload_n 1, 1, .aload 1, 0),
  (1292, .aload_n 0, 1, .aload 0, 0),
  (1293, .iload_n 3, 1, .iload 3, 0),
  (1294, .iconst 1, 1, .iconst 1, 0),
  (1295, .iadd, 1, .iadd, 0),
  (1296, .iaload, 1, .iaload, 0),
  (1297, .aload_n 0, 1, .aload 0, 0),
  (1298, .iload_n 3, 1, .iload 3, 0),
  (1299, .iconst 2, 1, .iconst 2, 0),
  (1300, .iadd, 1, .iadd, 0),
  (1301, .iaload, 1, .iaload, 0),
  (1302, .invokevirtual 163, 3, .invokevirtual 60, 4129),
  (1305, .aload_n 2, 1, .aload 2, 0),
  (1306, .aload_n 0, 1, .aload 0, 0),
  (1307, .iload_n 3, 1, .iload 3, 0),
  (1308, .iconst 1, 1, .iconst 1, 0),
  (1309, .iadd, 1, .iadd, 0),
  (1310, .iaload, 1, .iaload, 0),
  (1311, .aload_n 0, 1, .aload 0, 0),
  (1312, .iload_n 3, 1, .iload 3, 0),
  (1313, .iconst 2, 1, .iconst 2, 0),
  (1314, .iadd, 1, .iadd, 0),
  (1315, .iaload, 1, .iaload, 0),
  (1316, .invokevirtual 166, 3, .invokevirtual 160, 8143),
  (1319, .if_icmp .eq 1124, 3, .if_icmp .eq 1124, 0),
  (1322, .iconst 0, 1, .iconst 0, 0),
  (1323, .ireturn, 1, .ireturn, 0),
  (1324, .aload_n 1, 1, .aload 1, 0),
  (1325, .aload_n 0, 1, .aload 0, 0),
  (1326, .iload_n 3, 1, .iload 3, 0),
  (1327, .iconst 1, 1, .iconst 1, 0),
  (1328, .iadd, 1, .iadd, 0),
  (1329, .iaload, 1, .iaload, 0),
  (1330, .invokevirtual 167, 3, .invokevirtual 44, 3216),
  (1333, .aload_n 2, 1, .aload 2, 0),
  (1334, .aload_n 0, 1, .aload 0, 0),
  (1335, .iload_n 3, 1, .iload 3, 0),
  (1336, .iconst 1, 1, .iconst 1, 0),
  (1337, .iadd, 1, .iadd, 0),
  (1338, .iaload, 1, .iaload, 0),
  (1339, .invokevirtual 170, 3, .invokevirtual 161, 8147),
  (1342, .if_icmp .eq 1101, 3, .if_icmp .eq 1101, 0),
  (1345, .iconst 0, 1, .iconst 0, 0),
  (1346, .ireturn, 1, .ireturn, 0),
  (1347, .aload_n 1, 1, .aload 1, 0),
  (1348, .aload_n 0, 1, .aload 0, 0),
  (1349, .iload_n 3, 1, .iload 3, 0),
  (1350, .iconst 1, 1, .iconst 1, 0),
  (1351, .iadd, 1, .iadd, 0),
  (1352, .iaload, 1, .iaload, 0),
  (1353, .invokevirtual 171, 3, .invokevirtual 87, 5157),
  (1356, .aload_n 2, 1, .aload 2, 0),
  (1357, .aload_n 0, 1, .aload 0, 0),
  (1358, .iload_n 3, 1, .iload 3, 0),
  (1359, .iconst 1, 1, .iconst 1, 0),
  (1360, .iadd, 1, .iadd, 0),
  (1361, .iaload, 1, .iaload, 0),
  (1362, .invokevirtual 174, 3, .invokevirtual 162, 8151),
  (1365, .if_icmp .eq 1078, 3, .if_icmp .eq 1078, 0),
  (1368, .iconst 0, 1, .iconst 0, 0),
  (1369, .ireturn, 1, .ireturn, 0),
  (1370, .aload_n 1, 1, .aload 1, 0),
  (1371, .aload_n 0, 1, .aload 0, 0),
  (1372, .iload_n 3, 1, .iload 3, 0),
  (1373, .iconst 1, 1, .iconst 1, 0),
  (1374, .iadd, 1, .iadd, 0),
  (1375, .iaload, 1, .iaload, 0),
  (1376, .aload_n 0, 1, .aload 0, 0),
  (1377, .iload_n 3, 1, .iload 3, 0),
  (1378, .iconst 2, 1, .iconst 2, 0),
  (1379, .iadd, 1, .iadd, 0),
  (1380, .iaload, 1, .iaload, 0),
  (1381, .aload_n 0, 1, .aload 0, 0),
  (1382, .iload_n 3, 1, .iload 3, 0),
  (1383, .iconst 3, 1, .iconst 3, 0),
  (1384, .iadd, 1, .iadd, 0),
  (1385, .iaload, 1, .iaload, 0),
  (1386, .invokevirtual 175, 3, .invokevirtual 88, 5188),
  (1389, .aload_n 2, 1, .aload 2, 0),
  (1390, .aload_n 0, 1, .aload 0, 0),
  (1391, .iload_n 3, 1, .iload 3, 0),
  (1392, .iconst 1, 1, .iconst 1, 0),
  (1393, .iadd, 1, .iadd, 0),
  (1394, .iaload, 1, .iaload, 0),
  (1395, .aload_n 0, 1, .aload 0, 0),
  (1396, .iload_n 3, 1, .iload 3, 0),
  (1397, .iconst 2, 1, .iconst 2, 0),
  (1398, .iadd, 1, .iadd, 0),
  (1399, .iaload, 1, .iaload, 0),
  (1400, .aload_n 0, 1, .aload 0, 0),
  (1401, .iload_n 3, 1, .iload 3, 0),
  (1402, .iconst 3, 1, .iconst 3, 0),
  (1403, .iadd, 1, .iadd, 0),
  (1404, .iaload, 1, .iaload, 0),
  (1405, .invokevirtual 178, 3, .invokevirtual 163, 8180),
  (1408, .if_icmp .eq 1035, 3, .if_icmp .eq 1035, 0),
  (1411, .iconst 0, 1, .iconst 0, 0),
  (1412, .ireturn, 1, .ireturn, 0),
  (1413, .aload_n 1, 1, .aload 1, 0),
  (1414, .aload_n 0, 1, .aload 0, 0),
  (1415, .iload_n 3, 1, .iload 3, 0),
  (1416, .iconst 1, 1, .iconst 1, 0),
  (1417, .iadd, 1, .iadd, 0),
  (1418, .iaload, 1, .iaload, 0),
  (1419, .aload_n 0, 1, .aload 0, 0),
  (1420, .iload_n 3, 1, .iload 3, 0),
  (1421, .iconst 2, 1, .iconst 2, 0),
  (1422, .iadd, 1, .iadd, 0),
  (1423, .iaload, 1, .iaload, 0),
  (1424, .invokevirtual 179, 3, .invokevirtual 89, 5193),
  (1427, .aload_n 2, 1, .aload 2, 0),
  (1428, .aload_n 0, 1, .aload 0, 0),
  (1429, .iload_n 3, 1, .iload 3, 0),
  (1430, .iconst 1, 1, .iconst 1, 0),
  (1431, .iadd, 1, .iadd, 0),
  (1432, .iaload, 1, .iaload, 0),
  (1433, .aload_n 0, 1, .aload 0, 0),
  (1434, .iload_n 3, 1, .iload 3, 0),
  (1435, .iconst 2, 1, .iconst 2, 0),
  (1436, .iadd, 1, .iadd, 0),
  (1437, .iaload, 1, .iaload, 0),
  (1438, .invokevirtual 182, 3, .invokevirtual 164, 8184),
  (1441, .if_icmp .eq 1002, 3, .if_icmp .eq 1002, 0),
  (1444, .iconst 0, 1, .iconst 0, 0),
  (1445, .ireturn, 1, .ireturn, 0),
  (1446, .aload_n 1, 1, .aload 1, 0),
  (1447, .aload_n 0, 1, .aload 0, 0),
  (1448, .iload_n 3, 1, .iload 3, 0),
  (1449, .iconst 1, 1, .iconst 1, 0),
  (1450, .iadd, 1, .iadd, 0),
  (1451, .iaload, 1, .iaload, 0),
  (1452, .aload_n 0, 1, .aload 0, 0),
  (1453, .iload_n 3, 1, .iload 3, 0),
  (1454, .iconst 2, 1, .iconst 2, 0),
  (1455, .iadd, 1, .iadd, 0),
  (1456, .iaload, 1, .iaload, 0),
  (1457, .invokevirtual 183, 3, .invokevirtual 90, 5198),
  (1460, .aload_n 2, 1, .aload 2, 0),
  (1461, .aload_n 0, 1, .aload 0, 0),
  (1462, .iload_n 3, 1, .iload 3, 0),
  (1463, .iconst 1, 1, .iconst 1, 0),
  (1464, .iadd, 1, .iadd, 0),
  (1465, .iaload, 1, .iaload, 0),
  (1466, .aload_n 0, 1, .aload 0, 0),
  (1467, .iload_n 3, 1, .iload 3, 0),
  (1468, .iconst 2, 1, .iconst 2, 0),
  (1469, .iadd, 1, .iadd, 0),
  (1470, .iaload, 1, .iaload, 0),
  (1471, .invokevirtual 186, 3, .invokevirtual 165, 8188),
  (1474, .if_icmp .eq 969, 3, .if_icmp .eq 969, 0),
  (1477, .iconst 0, 1, .iconst 0, 0),
  (1478, .ireturn, 1, .ireturn, 0),
  (1479, .aload_n 1, 1, .aload 1, 0),
  (1480, .aload_n 0, 1, .aload 0, 0),
  (1481, .iload_n 3, 1, .iload 3, 0),
  (1482, .iconst 1, 1, .iconst 1, 0),
  (1483, .iadd, 1, .iadd, 0),
  (1484, .iaload, 1, .iaload, 0),
  (1485, .aload_n 0, 1, .aload 0, 0),
  (1486, .iload_n 3, 1, .iload 3, 0),
  (1487, .iconst 2, 1, .iconst 2, 0),
  (1488, .iadd, 1, .iadd, 0),
  (1489, .iaload, 1, .iaload, 0),
  (1490, .aload_n 0, 1, .aload 0, 0),
  (1491, .iload_n 3, 1, .iload 3, 0),
  (1492, .iconst 3, 1, .iconst 3, 0),
  (1493, .iadd, 1, .iadd, 0),
  (1494, .iaload, 1, .iaload, 0),
  (1495, .invokevirtual 187, 3, .invokevirtual 91, 5202),
  (1498, .aload_n 2, 1, .aload 2, 0),
  (1499, .aload_n 0, 1, .aload 0, 0),
  (1500, .iload_n 3, 1, .iload 3, 0),
  (1501, .iconst 1, 1, .iconst 1, 0),
  (1502, .iadd, 1, .iadd, 0),
  (1503, .iaload, 1, .iaload, 0),
  (1504, .aload_n 0, 1, .aload 0, 0),
  (1505, .iload_n 3, 1, .iload 3, 0),
  (1506, .iconst 2, 1, .iconst 2, 0),
  (1507, .iadd, 1, .iadd, 0),
  (1508, .iaload, 1, .iaload, 0),
  (1509, .aload_n 0, 1, .aload 0, 0),
  (1510, .iload_n 3, 1, .iload 3, 0),
  (1511, .iconst 3, 1, .iconst 3, 0),
  (1512, .iadd, 1, .iadd, 0),
  (1513, .iaload, 1, .iaload, 0),
  (1514, .invokevirtual 190, 3, .invokevirtual 166, 8192),
  (1517, .if_icmp .eq 926, 3, .if_icmp .eq 926, 0),
  (1520, .iconst 0, 1, .iconst 0, 0),
  (1521, .ireturn, 1, .ireturn, 0),
  (1522, .aload_n 1, 1, .aload 1, 0),
  (1523, .aload_n 0, 1, .aload 0, 0),
  (1524, .iload_n 3, 1, .iload 3, 0),
  (1525, .iconst 1, 1, .iconst 1, 0),
  (1526, .iadd, 1, .iadd, 0),
  (1527, .iaload, 1, .iaload, 0),
  (1528, .aload_n 0, 1, .aload 0, 0),
  (1529, .iload_n 3, 1, .iload 3, 0),
  (1530, .iconst 2, 1, .iconst 2, 0),
  (1531, .iadd, 1, .iadd, 0),
  (1532, .iaload, 1, .iaload, 0),
  (1533, .invokevirtual 191, 3, .invokevirtual 92, 5221),
  (1536, .aload_n 2, 1, .aload 2, 0),
  (1537, .aload_n 0, 1, .aload 0, 0),
  (1538, .iload_n 3, 1, .iload 3, 0),
  (1539, .iconst 1, 1, .iconst 1, 0),
  (1540, .iadd, 1, .iadd, 0),
  (1541, .iaload, 1, .iaload, 0),
  (1542, .aload_n 0, 1, .aload 0, 0),
  (1543, .iload_n 3, 1, .iload 3, 0),
  (1544, .iconst 2, 1, .iconst 2, 0),
  (1545, .iadd, 1, .iadd, 0),
  (1546, .iaload, 1, .iaload, 0),
  (1547, .invokevirtual 194, 3, .invokevirtual 167, 8212),
  (1550, .if_icmp .eq 893, 3, .if_icmp .eq 893, 0),
  (1553, .iconst 0, 1, .iconst 0, 0),
  (1554, .ireturn, 1, .ireturn, 0),
  (1555, .aload_n 1, 1, .aload 1, 0),
  (1556, .aload_n 0, 1, .aload 0, 0),
  (1557, .iload_n 3, 1, .iload 3, 0),
  (1558, .iconst 1, 1, .iconst 1, 0),
  (1559, .iadd, 1, .iadd, 0),
  (1560, .iaload, 1, .iaload, 0),
  (1561, .aload_n 0, 1, .aload 0, 0),
  (1562, .iload_n 3, 1, .iload 3, 0),
  (1563, .iconst 2, 1, .iconst 2, 0),
  (1564, .iadd, 1, .iadd, 0),
  (1565, .iaload, 1, .iaload, 0),
  (1566, .invokevirtual 195, 3, .invokevirtual 93, 5226),
  (1569, .aload_n 2, 1, .aload 2, 0),
  (1570, .aload_n 0, 1, .aload 0, 0),
  (1571, .iload_n 3, 1, .iload 3, 0),
  (1572, .iconst 1, 1, .iconst 1, 0),
  (1573, .iadd, 1, .iadd, 0),
  (1574, .iaload, 1, .iaload, 0),
  (1575, .aload_n 0, 1, .aload 0, 0),
  (1576, .iload_n 3, 1, .iload 3, 0),
  (1577, .iconst 2, 1, .iconst 2, 0),
  (1578, .iadd, 1, .iadd, 0),
  (1579, .iaload, 1, .iaload, 0),
  (1580, .invokevirtual 198, 3, .invokevirtual 168, 8216),
  (1583, .if_icmp .eq 860, 3, .if_icmp .eq 860, 0),
  (1586, .iconst 0, 1, .iconst 0, 0),
  (1587, .ireturn, 1, .ireturn, 0),
  (1588, .aload_n 1, 1, .aload 1, 0),
  (1589, .aload_n 0, 1, .aload 0, 0),
  (1590, .iload_n 3, 1, .iload 3, 0),
  (1591, .iconst 1, 1, .iconst 1, 0),
  (1592, .iadd, 1, .iadd, 0),
  (1593, .iaload, 1, .iaload, 0),
  (1594, .aload_n 0, 1, .aload 0, 0),
  (1595, .iload_n 3, 1, .iload 3, 0),
  (1596, .iconst 2, 1, .iconst 2, 0),
  (1597, .iadd, 1, .iadd, 0),
  (1598, .iaload, 1, .iaload, 0),
  (1599, .invokevirtual 199, 3, .invokevirtual 94, 5230),
  (1602, .aload_n 2, 1, .aload 2, 0),
  (1603, .aload_n 0, 1, .aload 0, 0),
  (1604, .iload_n 3, 1, .iload 3, 0),
  (1605, .iconst 1, 1, .iconst 1, 0),
  (1606, .iadd, 1, .iadd, 0),
  (1607, .iaload, 1, .iaload, 0),
  (1608, .aload_n 0, 1, .aload 0, 0),
  (1609, .iload_n 3, 1, .iload 3, 0),
  (1610, .iconst 2, 1, .iconst 2, 0),
  (1611, .iadd, 1, .iadd, 0),
  (1612, .iaload, 1, .iaload, 0),
  (1613, .invokevirtual 202, 3, .invokevirtual 169, 8220),
  (1616, .if_icmp .eq 827, 3, .if_icmp .eq 827, 0),
  (1619, .iconst 0, 1, .iconst 0, 0),
  (1620, .ireturn, 1, .ireturn, 0),
  (1621, .aload_n 1, 1, .aload 1, 0),
  (1622, .aload_n 0, 1, .aload 0, 0),
  (1623, .iload_n 3, 1, .iload 3, 0),
  (1624, .iconst 1, 1, .iconst 1, 0),
  (1625, .iadd, 1, .iadd, 0),
  (1626, .iaload, 1, .iaload, 0),
  (1627, .aload_n 0, 1, .aload 0, 0),
  (1628, .iload_n 3, 1, .iload 3, 0),
  (1629, .iconst 2, 1, .iconst 2, 0),
  (1630, .iadd, 1, .iadd, 0),
  (1631, .iaload, 1, .iaload, 0),
  (1632, .invokevirtual 203, 3, .invokevirtual 95, 6007),
  (1635, .aload_n 2, 1, .aload 2, 0),
  (1636, .aload_n 0, 1, .aload 0, 0),
  (1637, .iload_n 3, 1, .iload 3, 0),
  (1638, .iconst 1, 1, .iconst 1, 0),
  (1639, .iadd, 1, .iadd, 0),
  (1640, .iaload, 1, .iaload, 0),
  (1641, .aload_n 0, 1, .aload 0, 0),
  (1642, .iload_n 3, 1, .iload 3, 0),
  (1643, .iconst 2, 1, .iconst 2, 0),
  (1644, .iadd, 1, .iadd, 0),
  (1645, .iaload, 1, .iaload, 0),
  (1646, .invokevirtual 206, 3, .invokevirtual 170, 8232),
  (1649, .if_icmp .eq 794, 3, .if_icmp .eq 794, 0),
  (1652, .iconst 0, 1, .iconst 0, 0),
  (1653, .ireturn, 1, .ireturn, 0),
  (1654, .aload_n 1, 1, .aload 1, 0),
  (1655, .aload_n 0, 1, .aload 0, 0),
  (1656, .iload_n 3, 1, .iload 3, 0),
  (1657, .iconst 1, 1, .iconst 1, 0),
  (1658, .iadd, 1, .iadd, 0),
  (1659, .iaload, 1, .iaload, 0),
  (1660, .invokevirtual 207, 3, .invokevirtual 45, 4000),
  (1663, .aload_n 2, 1, .aload 2, 0),
  (1664, .aload_n 0, 1, .aload 0, 0),
  (1665, .iload_n 3, 1, .iload 3, 0),
  (1666, .iconst 1, 1, .iconst 1, 0),
  (1667, .iadd, 1, .iadd, 0),
  (1668, .iaload, 1, .iaload, 0),
  (1669, .invokevirtual 210, 3, .invokevirtual 171, 8236),
  (1672, .if_icmp .eq 771, 3, .if_icmp .eq 771, 0),
  (1675, .iconst 0, 1, .iconst 0, 0),
  (1676, .ireturn, 1, .ireturn, 0),
  (1677, .aload_n 1, 1, .aload 1, 0),
  (1678, .aload_n 0, 1, .aload 0, 0),
  (1679, .iload_n 3, 1, .iload 3, 0),
  (1680, .iconst 1, 1, .iconst 1, 0),
  (1681, .iadd, 1, .iadd, 0),
  (1682, .iaload, 1, .iaload, 0),
  (1683, .invokevirtual 211, 3, .invokevirtual 46, 4008),
  (1686, .aload_n 2, 1, .aload 2, 0),
  (1687, .aload_n 0, 1, .aload 0, 0),
  (1688, .iload_n 3, 1, .iload 3, 0),
  (1689, .iconst 1, 1, .iconst 1, 0),
  (1690, .iadd, 1, .iadd, 0),
  (1691, .iaload, 1, .iaload, 0),
  (1692, .invokevirtual 214, 3, .invokevirtual 172, 9004),
  (1695, .if_icmp .eq 748, 3, .if_icmp .eq 748, 0),
  (1698, .iconst 0, 1, .iconst 0, 0),
  (1699, .ireturn, 1, .ireturn, 0),
  (1700, .aload_n 1, 1, .aload 1, 0),
  (1701, .aload_n 0, 1, .aload 0, 0),
  (1702, .iload_n 3, 1, .iload 3, 0),
  (1703, .iconst 1, 1, .iconst 1, 0),
  (1704, .iadd, 1, .iadd, 0),
  (1705, .iaload, 1, .iaload, 0),
  (1706, .invokevirtual 215, 3, .invokevirtual 59, 4124),
  (1709, .aload_n 2, 1, .aload 2, 0),
  (1710, .aload_n 0, 1, .aload 0, 0),
  (1711, .iload_n 3, 1, .iload 3, 0),
  (1712, .iconst 1, 1, .iconst 1, 0),
  (1713, .iadd, 1, .iadd, 0),
  (1714, .iaload, 1, .iaload, 0),
  (1715, .invokevirtual 218, 3, .invokevirtual 173, 9008),
  (1718, .if_icmp .eq 725, 3, .if_icmp .eq 725, 0),
  (1721, .iconst 0, 1, .iconst 0, 0),
  (1722, .ireturn, 1, .ireturn, 0),
  (1723, .aload_n 1, 1, .aload 1, 0),
  (1724, .aload_n 0, 1, .aload 0, 0),
  (1725, .iload_n 3, 1, .iload 3, 0),
  (1726, .iconst 1, 1, .iconst 1, 0),
  (1727, .iadd, 1, .iadd, 0),
  (1728, .iaload, 1, .iaload, 0),
  (1729, .aload_n 0, 1, .aload 0, 0),
  (1730, .iload_n 3, 1, .iload 3, 0),
  (1731, .iconst 2, 1, .iconst 2, 0),
  (1732, .iadd, 1, .iadd, 0),
  (1733, .iaload, 1, .iaload, 0),
  (1734, .invokevirtual 219, 3, .invokevirtual 40, 3191),
  (1737, .aload_n 2, 1, .aload 2, 0),
  (1738, .aload_n 0, 1, .aload 0, 0),
  (1739, .iload_n 3, 1, .iload 3, 0),
  (1740, .iconst 1, 1, .iconst 1, 0),
  (1741, .iadd, 1, .iadd, 0),
  (1742, .iaload, 1, .iaload, 0),
  (1743, .aload_n 0, 1, .aload 0, 0),
  (1744, .iload_n 3, 1, .iload 3, 0),
  (1745, .iconst 2, 1, .iconst 2, 0),
  (1746, .iadd, 1, .iadd, 0),
  (1747, .iaload, 1, .iaload, 0),
  (1748, .invokevirtual 222, 3, .invokevirtual 174, 9012),
  (1751, .lcmp, 1, .lcmp, 0),
  (1752, .ifCond .eq 691, 3, .ifCond .eq 691, 0),
  (1755, .iconst 0, 1, .iconst 0, 0),
  (1756, .ireturn, 1, .ireturn, 0),
  (1757, .aload_n 1, 1, .aload 1, 0),
  (1758, .aload_n 0, 1, .aload 0, 0),
  (1759, .iload_n 3, 1, .iload 3, 0),
  (1760, .iconst 1, 1, .iconst 1, 0),
  (1761, .iadd, 1, .iadd, 0),
  (1762, .iaload, 1, .iaload, 0),
  (1763, .invokevirtual 223, 3, .invokevirtual 53, 4095),
  (1766, .aload_n 2, 1, .aload 2, 0),
  (1767, .aload_n 0, 1, .aload 0, 0),
  (1768, .iload_n 3, 1, .iload 3, 0),
  (1769, .iconst 1, 1, .iconst 1, 0),
  (1770, .iadd, 1, .iadd, 0),
  (1771, .iaload, 1, .iaload, 0),
  (1772, .invokevirtual 226, 3, .invokevirtual 175, 9016),
  (1775, .if_icmp .eq 668, 3, .if_icmp .eq 668, 0),
  (1778, .iconst 0, 1, .iconst 0, 0),
  (1779, .ireturn, 1, .ireturn, 0),
  (1780, .aload_n 1, 1, .aload 1, 0),
  (1781, .invokevirtual 227, 3, .invokevirtual 54, 4100),
  (1784, .aload_n 2, 1, .aload 2, 0),
  (1785, .invokevirtual 230, 3, .invokevirtual 176, 9024),
  (1788, .if_icmp .eq 655, 3, .if_icmp .eq 655, 0),
  (1791, .iconst 0, 1, .iconst 0, 0),
  (1792, .ireturn, 1, .ireturn, 0),
  (1793, .aload_n 1, 1, .aload 1, 0),
  (1794, .aload_n 0, 1, .aload 0, 0),
  (1795, .iload_n 3, 1, .iload 3, 0),
  (1796, .iconst 1, 1, .iconst 1, 0),
  (1797, .iadd, 1, .iadd, 0),
  (1798, .iaload, 1, .iaload, 0),
  (1799, .invokevirtual 231, 3, .invokevirtual 69, 4216),
  (1802, .aload_n 2, 1, .aload 2, 0),
  (1803, .aload_n 0, 1, .aload 0, 0),
  (1804, .iload_n 3, 1, .iload 3, 0),
  (1805, .iconst 1, 1, .iconst 1, 0),
  (1806, .iadd, 1, .iadd, 0),
  (1807, .iaload, 1, .iaload, 0),
  (1808, .invokevirtual 234, 3, .invokevirtual 177, 9028),
  (1811, .if_icmp .eq 632, 3, .if_icmp .eq 632, 0),
  (1814, .iconst 0, 1, .iconst 0, 0),
  (1815, .ireturn, 1, .ireturn, 0),
  (1816, .aload_n 1, 1, .aload 1, 0),
  (1817, .invokevirtual 235, 3, .invokevirtual 70, 4224),
  (1820, .aload_n 2, 1, .aload 2, 0),
  (1821, .invokevirtual 238, 3, .invokevirtual 178, 9032),
  (1824, .if_icmp .eq 619, 3, .if_icmp .eq 619, 0),
  (1827, .iconst 0, 1, .iconst 0, 0),
  (1828, .ireturn, 1, .ireturn, 0),
  (1829, .aload_n 1, 1, .aload 1, 0),
  (1830, .aload_n 0, 1, .aload 0, 0),
  (1831, .iload_n 3, 1, .iload 3, 0),
  (1832, .iconst 1, 1, .iconst 1, 0),
  (1833, .iadd, 1, .iadd, 0),
  (1834, .iaload, 1, .iaload, 0),
  (1835, .aload_n 0, 1, .aload 0, 0),
  (1836, .iload_n 3, 1, .iload 3, 0),
  (1837, .iconst 2, 1, .iconst 2, 0),
  (1838, .iadd, 1, .iadd, 0),
  (1839, .iaload, 1, .iaload, 0),
  (1840, .invokevirtual 239, 3, .invokevirtual 41, 3199),
  (1843, .aload_n 2, 1, .aload 2, 0),
  (1844, .aload_n 0, 1, .aload 0, 0),
  (1845, .iload_n 3, 1, .iload 3, 0),
  (1846, .iconst 1, 1, .iconst 1, 0),
  (1847, .iadd, 1, .iadd, 0),
  (1848, .iaload, 1, .iaload, 0),
  (1849, .aload_n 0, 1, .aload 0, 0),
  (1850, .iload_n 3, 1, .iload 3, 0),
  (1851, .iconst 2, 1, .iconst 2, 0),
  (1852, .iadd, 1, .iadd, 0),
  (1853, .iaload, 1, .iaload, 0),
  (1854, .invokevirtual 242, 3, .invokevirtual 179, 9036),
  (1857, .if_icmp .eq 586, 3, .if_icmp .eq 586, 0),
  (1860, .iconst 0, 1, .iconst 0, 0),
  (1861, .ireturn, 1, .ireturn, 0),
  (1862, .aload_n 1, 1, .aload 1, 0),
  (1863, .invokevirtual 243, 3, .invokevirtual 55, 4105),
  (1866, .aload_n 2, 1, .aload 2, 0),
  (1867, .invokevirtual 246, 3, .invokevirtual 180, 9040),
  (1870, .if_icmp .eq 573, 3, .if_icmp .eq 573, 0),
  (1873, .iconst 0, 1, .iconst 0, 0),
  (1874, .ireturn, 1, .ireturn, 0),
  (1875, .aload_n 1, 1, .aload 1, 0),
  (1876, .invokevirtual 247, 3, .invokevirtual 56, 4109),
  (1879, .aload_n 2, 1, .aload 2, 0),
  (1880, .invokevirtual 250, 3, .invokevirtual 181, 9044),
  (1883, .if_icmp .eq 560, 3, .if_icmp .eq 560, 0),
  (1886, .iconst 0, 1, .iconst 0, 0),
  (1887, .ireturn, 1, .ireturn, 0),
  (1888, .aload_n 1, 1, .aload 1, 0),
  (1889, .aload_n 0, 1, .aload 0, 0),
  (1890, .iload_n 3, 1, .iload 3, 0),
  (1891, .iconst 1, 1, .iconst 1, 0),
  (1892, .iadd, 1, .iadd, 0),
  (1893, .iaload, 1, .iaload, 0),
  (1894, .invokevirtual 251, 3, .invokevirtual 57, 4113),
  (1897, .aload_n 2, 1, .aload 2, 0),
  (1898, .aload_n 0, 1, .aload 0, 0),
  (1899, .iload_n 3, 1, .iload 3, 0),
  (1900, .iconst 1, 1, .iconst 1, 0),
  (1901, .iadd, 1, .iadd, 0),
  (1902, .iaload, 1, .iaload, 0),
  (1903, .invokevirtual 254, 3, .invokevirtual 182, 9048),
  (1906, .if_icmp .eq 537, 3, .if_icmp .eq 537, 0),
  (1909, .iconst 0, 1, .iconst 0, 0),
  (1910, .ireturn, 1, .ireturn, 0),
  (1911, .aload_n 1, 1, .aload 1, 0),
  (1912, .aload_n 0, 1, .aload 0, 0),
  (1913, .iload_n 3, 1, .iload 3, 0),
  (1914, .iconst 1, 1, .iconst 1, 0),
  (1915, .iadd, 1, .iadd, 0),
  (1916, .iaload, 1, .iaload, 0),
  (1917, .invokevirtual 255, 3, .invokevirtual 58, 4118),
  (1920, .aload_n 2, 1, .aload 2, 0),
  (1921, .aload_n 0, 1, .aload 0, 0),
  (1922, .iload_n 3, 1, .iload 3, 0),
  (1923, .iconst 1, 1, .iconst 1, 0),
  (1924, .iadd, 1, .iadd, 0),
  (1925, .iaload, 1, .iaload, 0),
  (1926, .invokevirtual 258, 3, .invokevirtual 183, 9052),
  (1929, .if_icmp .eq 514, 3, .if_icmp .eq 514, 0),
  (1932, .iconst 0, 1, .iconst 0, 0),
  (1933, .ireturn, 1, .ireturn, 0),
  (1934, .aload_n 1, 1, .aload 1, 0),
  (1935, .aload_n 0, 1, .aload 0, 0),
  (1936, .iload_n 3, 1, .iload 3, 0),
  (1937, .iconst 1, 1, .iconst 1, 0),
  (1938, .iadd, 1, .iadd, 0),
  (1939, .iaload, 1, .iaload, 0),
  (1940, .invokevirtual 259, 3, .invokevirtual 71, 4228),
  (1943, .aload_n 2, 1, .aload 2, 0),
  (1944, .aload_n 0, 1, .aload 0, 0),
  (1945, .iload_n 3, 1, .iload 3, 0),
  (1946, .iconst 1, 1, .iconst 1, 0),
  (1947, .iadd, 1, .iadd, 0),
  (1948, .iaload, 1, .iaload, 0),
  (1949, .invokevirtual 262, 3, .invokevirtual 184, 9056),
  (1952, .if_icmp .eq 491, 3, .if_icmp .eq 491, 0),
  (1955, .iconst 0, 1, .iconst 0, 0),
  (1956, .ireturn, 1, .ireturn, 0),
  (1957, .aload_n 1, 1, .aload 1, 0),
  (1958, .aload_n 0, 1, .aload 0, 0),
  (1959, .iload_n 3, 1, .iload 3, 0),
  (1960, .iconst 1, 1, .iconst 1, 0),
  (1961, .iadd, 1, .iadd, 0),
  (1962, .iaload, 1, .iaload, 0),
  (1963, .aload_n 0, 1, .aload 0, 0),
  (1964, .iload_n 3, 1, .iload 3, 0),
  (1965, .iconst 2, 1, .iconst 2, 0),
  (1966, .iadd, 1, .iadd, 0),
  (1967, .iaload, 1, .iaload, 0),
  (1968, .invokevirtual 263, 3, .invokevirtual 42, 3203),
  (1971, .aload_n 2, 1, .aload 2, 0),
  (1972, .aload_n 0, 1, .aload 0, 0),
  (1973, .iload_n 3, 1, .iload 3, 0),
  (1974, .iconst 1, 1, .iconst 1, 0),
  (1975, .iadd, 1, .iadd, 0),
  (1976, .iaload, 1, .iaload, 0),
  (1977, .aload_n 0, 1, .aload 0, 0),
  (1978, .iload_n 3, 1, .iload 3, 0),
  (1979, .iconst 2, 1, .iconst 2, 0),
  (1980, .iadd, 1, .iadd, 0),
  (1981, .iaload, 1, .iaload, 0),
  (1982, .invokevirtual 266, 3, .invokevirtual 187, 9078),
  (1985, .if_icmp .eq 458, 3, .if_icmp .eq 458, 0),
  (1988, .iconst 0, 1, .iconst 0, 0),
  (1989, .ireturn, 1, .ireturn, 0),
  (1990, .aload_n 1, 1, .aload 1, 0),
  (1991, .aload_n 0, 1, .aload 0, 0),
  (1992, .iload_n 3, 1, .iload 3, 0),
  (1993, .iconst 1, 1, .iconst 1, 0),
  (1994, .iadd, 1, .iadd, 0),
  (1995, .iaload, 1, .iaload, 0),
  (1996, .aload_n 0, 1, .aload 0, 0),
  (1997, .iload_n 3, 1, .iload 3, 0),
  (1998, .iconst 2, 1, .iconst 2, 0),
  (1999, .iadd, 1, .iadd, 0),
  (2000, .iaload, 1, .iaload, 0),
  (2001, .aload_n 0, 1, .aload 0, 0),
  (2002, .iload_n 3, 1, .iload 3, 0),
  (2003, .iconst 3, 1, .iconst 3, 0),
  (2004, .iadd, 1, .iadd, 0),
  (2005, .iaload, 1, .iaload, 0),
  (2006, .invokevirtual 267, 3, .invokevirtual 47, 4015),
  (2009, .aload_n 2, 1, .aload 2, 0),
  (2010, .aload_n 0, 1, .aload 0, 0),
  (2011, .iload_n 3, 1, .iload 3, 0),
  (2012, .iconst 1, 1, .iconst 1, 0),
  (2013, .iadd, 1, .iadd, 0),
  (2014, .iaload, 1, .iaload, 0),
  (2015, .aload_n 0, 1, .aload 0, 0),
  (2016, .iload_n 3, 1, .iload 3, 0),
  (2017, .iconst 2, 1, .iconst 2, 0),
  (2018, .iadd, 1, .iadd, 0),
  (2019, .iaload, 1, .iaload, 0),
  (2020, .aload_n 0, 1, .aload 0, 0),
  (2021, .iload_n 3, 1, .iload 3, 0),
  (2022, .iconst 3, 1, .iconst 3, 0),
  (2023, .iadd, 1, .iadd, 0),
  (2024, .iaload, 1, .iaload, 0),
  (2025, .invokevirtual 270, 3, .invokevirtual 185, 9060),
  (2028, .if_icmp .eq 415, 3, .if_icmp .eq 415, 0),
  (2031, .iconst 0, 1, .iconst 0, 0),
  (2032, .ireturn, 1, .ireturn, 0),
  (2033, .aload_n 1, 1, .aload 1, 0),
  (2034, .aload_n 0, 1, .aload 0, 0),
  (2035, .iload_n 3, 1, .iload 3, 0),
  (2036, .iconst 1, 1, .iconst 1, 0),
  (2037, .iadd, 1, .iadd, 0),
  (2038, .iaload, 1, .iaload, 0),
  (2039, .invokevirtual 271, 3, .invokevirtual 48, 4054),
  (2042, .aload_n 2, 1, .aload 2, 0),
  (2043, .aload_n 0, 1, .aload 0, 0),
  (2044, .iload_n 3, 1, .iload 3, 0),
  (2045, .iconst 1, 1, .iconst 1, 0),
  (2046, .iadd, 1, .iadd, 0),
  (2047, .iaload, 1, .iaload, 0),
  (2048, .invokevirtual 274, 3, .invokevirtual 186, 9074),
  (2051, .if_icmp .eq 392, 3, .if_icmp .eq 392, 0),
  (2054, .iconst 0, 1, .iconst 0, 0),
  (2055, .ireturn, 1, .ireturn, 0),
  (2056, .aload_n 1, 1, .aload 1, 0),
  (2057, .aload_n 0, 1, .aload 0, 0),
  (2058, .iload_n 3, 1, .iload 3, 0),
  (2059, .iconst 1, 1, .iconst 1, 0),
  (2060, .iadd, 1, .iadd, 0),
  (2061, .iaload, 1, .iaload, 0),
  (2062, .aload_n 0, 1, .aload 0, 0),
  (2063, .iload_n 3, 1, .iload 3, 0),
  (2064, .iconst 2, 1, .iconst 2, 0),
  (2065, .iadd, 1, .iadd, 0),
  (2066, .iaload, 1, .iaload, 0),
  (2067, .aload_n 0, 1, .aload 0, 0),
  (2068, .iload_n 3, 1, .iload 3, 0),
  (2069, .iconst 3, 1, .iconst 3, 0),
  (2070, .iadd, 1, .iadd, 0),
  (2071, .iaload, 1, .iaload, 0),
  (2072, .invokevirtual 275, 3, .invokevirtual 43, 3207),
  (2075, .aload_n 2, 1, .aload 2, 0),
  (2076, .aload_n 0, 1, .aload 0, 0),
  (2077, .iload_n 3, 1, .iload 3, 0),
  (2078, .iconst 1, 1, .iconst 1, 0),
  (2079, .iadd, 1, .iadd, 0),
  (2080, .iaload, 1, .iaload, 0),
  (2081, .aload_n 0, 1, .aload 0, 0),
  (2082, .iload_n 3, 1, .iload 3, 0),
  (2083, .iconst 2, 1, .iconst 2, 0),
  (2084, .iadd, 1, .iadd, 0),
  (2085, .iaload, 1, .iaload, 0),
  (2086, .aload_n 0, 1, .aload 0, 0),
  (2087, .iload_n 3, 1, .iload 3, 0),
  (2088, .iconst 3, 1, .iconst 3, 0),
  (2089, .iadd, 1, .iadd, 0),
  (2090, .iaload, 1, .iaload, 0),
  (2091, .invokevirtual 278, 3, .invokevirtual 188, 9082),
  (2094, .if_icmp .eq 349, 3, .if_icmp .eq 349, 0),
  (2097, .iconst 0, 1, .iconst 0, 0),
  (2098, .ireturn, 1, .ireturn, 0),
  (2099, .aload_n 1, 1, .aload 1, 0),
  (2100, .aload_n 0, 1, .aload 0, 0),
  (2101, .iload_n 3, 1, .iload 3, 0),
  (2102, .iconst 1, 1, .iconst 1, 0),
  (2103, .iadd, 1, .iadd, 0),
  (2104, .iaload, 1, .iaload, 0),
  (2105, .aload_n 0, 1, .aload 0, 0),
  (2106, .iload_n 3, 1, .iload 3, 0),
  (2107, .iconst 2, 1, .iconst 2, 0),
  (2108, .iadd, 1, .iadd, 0),
  (2109, .iaload, 1, .iaload, 0),
  (2110, .aload_n 0, 1, .aload 0, 0),
  (2111, .iload_n 3, 1, .iload 3, 0),
  (2112, .iconst 3, 1, .iconst 3, 0),
  (2113, .iadd, 1, .iadd, 0),
  (2114, .iaload, 1, .iaload, 0),
  (2115, .invokevirtual 279, 3, .invokevirtual 96, 6011),
  (2118, .aload_n 2, 1, .aload 2, 0),
  (2119, .aload_n 0, 1, .aload 0, 0),
  (2120, .iload_n 3, 1, .iload 3, 0),
  (2121, .iconst 1, 1, .iconst 1, 0),
  (2122, .iadd, 1, .iadd, 0),
  (2123, .iaload, 1, .iaload, 0),
  (2124, .aload_n 0, 1, .aload 0, 0),
  (2125, .iload_n 3, 1, .iload 3, 0),
  (2126, .iconst 2, 1, .iconst 2, 0),
  (2127, .iadd, 1, .iadd, 0),
  (2128, .iaload, 1, .iaload, 0),
  (2129, .aload_n 0, 1, .aload 0, 0),
  (2130, .iload_n 3, 1, .iload 3, 0),
  (2131, .iconst 3, 1, .iconst 3, 0),
  (2132, .iadd, 1, .iadd, 0),
  (2133, .iaload, 1, .iaload, 0),
  (2134, .invokevirtual 282, 3, .invokevirtual 189, 9091),
  (2137, .if_icmp .eq 306, 3, .if_icmp .eq 306, 0),
  (2140, .iconst 0, 1, .iconst 0, 0),
  (2141, .ireturn, 1, .ireturn, 0),
  (2142, .aload_n 1, 1, .aload 1, 0),
  (2143, .aload_n 0, 1, .aload 0, 0),
  (2144, .iload_n 3, 1, .iload 3, 0),
  (2145, .iconst 1, 1, .iconst 1, 0),
  (2146, .iadd, 1, .iadd, 0),
  (2147, .iaload, 1, .iaload, 0),
  (2148, .aload_n 0, 1, .aload 0, 0),
  (2149, .iload_n 3, 1, .iload 3, 0),
  (2150, .iconst 2, 1, .iconst 2, 0),
  (2151, .iadd, 1, .iadd, 0),
  (2152, .iaload, 1, .iaload, 0),
  (2153, .aload_n 0, 1, .aload 0, 0),
  (2154, .iload_n 3, 1, .iload 3, 0),
  (2155, .iconst 3, 1, .iconst 3, 0),
  (2156, .iadd, 1, .iadd, 0),
  (2157, .iaload, 1, .iaload, 0),
  (2158, .aload_n 0, 1, .aload 0, 0),
  (2159, .iload_n 3, 1, .iload 3, 0),
  (2160, .iconst 4, 1, .iconst 4, 0),
  (2161, .iadd, 1, .iadd, 0),
  (2162, .iaload, 1, .iaload, 0),
  (2163, .invokevirtual 283, 3, .invokevirtual 97, 6029),
  (2166, .aload_n 2, 1, .aload 2, 0),
  (2167, .aload_n 0, 1, .aload 0, 0),
  (2168, .iload_n 3, 1, .iload 3, 0),
  (2169, .iconst 1, 1, .iconst 1, 0),
  (2170, .iadd, 1, .iadd, 0),
  (2171, .iaload, 1, .iaload, 0),
  (2172, .aload_n 0, 1, .aload 0, 0),
  (2173, .iload_n 3, 1, .iload 3, 0),
  (2174, .iconst 2, 1, .iconst 2, 0),
  (2175, .iadd, 1, .iadd, 0),
  (2176, .iaload, 1, .iaload, 0),
  (2177, .aload_n 0, 1, .aload 0, 0),
  (2178, .iload_n 3, 1, .iload 3, 0),
  (2179, .iconst 3, 1, .iconst 3, 0),
  (2180, .iadd, 1, .iadd, 0),
  (2181, .iaload, 1, .iaload, 0),
  (2182, .aload_n 0, 1, .aload 0, 0),
  (2183, .iload_n 3, 1, .iload 3, 0),
  (2184, .iconst 4, 1, .iconst 4, 0),
  (2185, .iadd, 1, .iadd, 0),
  (2186, .iaload, 1, .iaload, 0),
  (2187, .invokevirtual 287, 3, .invokevirtual 191, 9117),
  (2190, .if_icmp .eq 253, 3, .if_icmp .eq 253, 0),
  (2193, .iconst 0, 1, .iconst 0, 0),
  (2194, .ireturn, 1, .ireturn, 0),
  (2195, .aload_n 1, 1, .aload 1, 0),
  (2196, .aload_n 0, 1, .aload 0, 0),
  (2197, .iload_n 3, 1, .iload 3, 0),
  (2198, .iconst 1, 1, .iconst 1, 0),
  (2199, .iadd, 1, .iadd, 0),
  (2200, .iaload, 1, .iaload, 0),
  (2201, .invokevirtual 288, 3, .invokevirtual 98, 6033),
  (2204, .aload_n 2, 1, .aload 2, 0),
  (2205, .aload_n 0, 1, .aload 0, 0),
  (2206, .iload_n 3, 1, .iload 3, 0),
  (2207, .iconst 1, 1, .iconst 1, 0),
  (2208, .iadd, 1, .iadd, 0),
  (2209, .iaload, 1, .iaload, 0),
  (2210, .invokevirtual 291, 3, .invokevirtual 192, 9121),
  (2213, .if_icmp .eq 230, 3, .if_icmp .eq 230, 0),
  (2216, .iconst 0, 1, .iconst 0, 0),
  (2217, .ireturn, 1, .ireturn, 0),
  (2218, .aload_n 1, 1, .aload 1, 0),
  (2219, .aload_n 0, 1, .aload 0, 0),
  (2220, .iload_n 3, 1, .iload 3, 0),
  (2221, .iconst 1, 1, .iconst 1, 0),
  (2222, .iadd, 1, .iadd, 0),
  (2223, .iaload, 1, .iaload, 0),
  (2224, .invokevirtual 292, 3, .invokevirtual 100, 6041),
  (2227, .aload_n 2, 1, .aload 2, 0),
  (2228, .aload_n 0, 1, .aload 0, 0),
  (2229, .iload_n 3, 1, .iload 3, 0),
  (2230, .iconst 1, 1, .iconst 1, 0),
  (2231, .iadd, 1, .iadd, 0),
  (2232, .iaload, 1, .iaload, 0),
  (2233, .invokevirtual 295, 3, .invokevirtual 108, 6207),
  (2236, .if_icmp .eq 207, 3, .if_icmp .eq 207, 0),
  (2239, .iconst 0, 1, .iconst 0, 0),
  (2240, .ireturn, 1, .ireturn, 0),
  (2241, .aload_n 1, 1, .aload 1, 0),
  (2242, .aload_n 0, 1, .aload 0, 0),
  (2243, .iload_n 3, 1, .iload 3, 0),
  (2244, .iconst 1, 1, .iconst 1, 0),
  (2245, .iadd, 1, .iadd, 0),
  (2246, .iaload, 1, .iaload, 0),
  (2247, .invokevirtual 296, 3, .invokevirtual 101, 6045),
  (2250, .aload_n 2, 1, .aload 2, 0),
  (2251, .aload_n 0, 1, .aload 0, 0),
  (2252, .iload_n 3, 1, .iload 3, 0),
  (2253, .iconst 1, 1, .iconst 1, 0),
  (2254, .iadd, 1, .iadd, 0),
  (2255, .iaload, 1, .iaload, 0),
  (2256, .invokevirtual 299, 3, .invokevirtual 110, 6215),
  (2259, .if_icmp .eq 184, 3, .if_icmp .eq 184, 0),
  (2262, .iconst 0, 1, .iconst 0, 0),
  (2263, .ireturn, 1, .ireturn, 0),
  (2264, .aload_n 1, 1, .aload 1, 0),
  (2265, .aload_n 0, 1, .aload 0, 0),
  (2266, .iload_n 3, 1, .iload 3, 0),
  (2267, .iconst 1, 1, .iconst 1, 0),
  (2268, .iadd, 1, .iadd, 0),
  (2269, .iaload, 1, .iaload, 0),
  (2270, .aload_n 0, 1, .aload 0, 0),
  (2271, .iload_n 3, 1, .iload 3, 0),
  (2272, .iconst 2, 1, .iconst 2, 0),
  (2273, .iadd, 1, .iadd, 0),
  (2274, .iaload, 1, .iaload, 0),
  (2275, .aload_n 0, 1, .aload 0, 0),
  (2276, .iload_n 3, 1, .iload 3, 0),
  (2277, .iconst 3, 1, .iconst 3, 0),
  (2278, .iadd, 1, .iadd, 0),
  (2279, .iaload, 1, .iaload, 0),
  (2280, .invokevirtual 300, 3, .invokevirtual 102, 6049),
  (2283, .aload_n 2, 1, .aload 2, 0),
  (2284, .aload_n 0, 1, .aload 0, 0),
  (2285, .iload_n 3, 1, .iload 3, 0),
  (2286, .iconst 1, 1, .iconst 1, 0),
  (2287, .iadd, 1, .iadd, 0),
  (2288, .iaload, 1, .iaload, 0),
  (2289, .aload_n 0, 1, .aload 0, 0),
  (2290, .iload_n 3, 1, .iload 3, 0),
  (2291, .iconst 2, 1, .iconst 2, 0),
  (2292, .iadd, 1, .iadd, 0),
  (2293, .iaload, 1, .iaload, 0),
  (2294, .aload_n 0, 1, .aload 0, 0),
  (2295, .iload_n 3, 1, .iload 3, 0),
  (2296, .iconst 3, 1, .iconst 3, 0),
  (2297, .iadd, 1, .iadd, 0),
  (2298, .iaload, 1, .iaload, 0),
  (2299, .invokevirtual 303, 3, .invokevirtual 193, 9125),
  (2302, .if_icmp .eq 141, 3, .if_icmp .eq 141, 0),
  (2305, .iconst 0, 1, .iconst 0, 0),
  (2306, .ireturn, 1, .ireturn, 0),
  (2307, .aload_n 1, 1, .aload 1, 0),
  (2308, .aload_n 0, 1, .aload 0, 0),
  (2309, .iload_n 3, 1, .iload 3, 0),
  (2310, .iconst 1, 1, .iconst 1, 0),
  (2311, .iadd, 1, .iadd, 0),
  (2312, .iaload, 1, .iaload, 0),
  (2313, .aload_n 0, 1, .aload 0, 0),
  (2314, .iload_n 3, 1, .iload 3, 0),
  (2315, .iconst 2, 1, .iconst 2, 0),
  (2316, .iadd, 1, .iadd, 0),
  (2317, .iaload, 1, .iaload, 0),
  (2318, .aload_n 0, 1, .aload 0, 0),
  (2319, .iload_n 3, 1, .iload 3, 0),
  (2320, .iconst 3, 1, .iconst 3, 0),
  (2321, .iadd, 1, .iadd, 0),
  (2322, .iaload, 1, .iaload, 0),
  (2323, .i2l, 1, .i2l, 0),
  (2324, .bipush 32, 2, .iconst 32, 0),
  (2326, .lshl, 1, .lshl, 0),
  (2327, .aload_n 0, 1, .aload 0, 0),
  (2328, .iload_n 3, 1, .iload 3, 0),
  (2329, .iconst 4, 1, .iconst 4, 0),
  (2330, .iadd, 1, .iadd, 0),
  (2331, .iaload, 1, .iaload, 0),
  (2332, .i2l, 1, .i2l, 0),
  (2333, .ldc2_w 304, 3, .jsr_w 4294967295, 9140),
  (2336, .land, 1, .land, 0),
  (2337, .lor, 1, .lor, 0),
  (2338, .invokevirtual 306, 3, .invokevirtual 105, 6060),
  (2341, .aload_n 2, 1, .aload 2, 0),
  (2342, .aload_n 0, 1, .aload 0, 0),
  (2343, .iload_n 3, 1, .iload 3, 0),
  (2344, .iconst 1, 1, .iconst 1, 0),
  (2345, .iadd, 1, .iadd, 0),
  (2346, .iaload, 1, .iaload, 0),
  (2347, .aload_n 0, 1, .aload 0, 0),
  (2348, .iload_n 3, 1, .iload 3, 0),
  (2349, .iconst 2, 1, .iconst 2, 0),
  (2350, .iadd, 1, .iadd, 0),
  (2351, .iaload, 1, .iaload, 0),
  (2352, .aload_n 0, 1, .aload 0, 0),
  (2353, .iload_n 3, 1, .iload 3, 0),
  (2354, .iconst 3, 1, .iconst 3, 0),
  (2355, .iadd, 1, .iadd, 0),
  (2356, .iaload, 1, .iaload, 0),
  (2357, .i2l, 1, .i2l, 0),
  (2358, .bipush 32, 2, .iconst 32, 0),
  (2360, .lshl, 1, .lshl, 0),
  (2361, .aload_n 0, 1, .aload 0, 0),
  (2362, .iload_n 3, 1, .iload 3, 0),
  (2363, .iconst 4, 1, .iconst 4, 0),
  (2364, .iadd, 1, .iadd, 0),
  (2365, .iaload, 1, .iaload, 0),
  (2366, .i2l, 1, .i2l, 0),
  (2367, .ldc2_w 304, 3, .jsr_w 4294967295, 9140),
  (2370, .land, 1, .land, 0),
  (2371, .lor, 1, .lor, 0),
  (2372, .invokevirtual 310, 3, .invokevirtual 194, 9129),
  (2375, .if_icmp .eq 68, 3, .if_icmp .eq 68, 0),
  (2378, .iconst 0, 1, .iconst 0, 0),
  (2379, .ireturn, 1, .ireturn, 0),
  (2380, .aload_n 1, 1, .aload 1, 0),
  (2381, .aload_n 0, 1, .aload 0, 0),
  (2382, .iload_n 3, 1, .iload 3, 0),
  (2383, .iconst 1, 1, .iconst 1, 0),
  (2384, .iadd, 1, .iadd, 0),
  (2385, .iaload, 1, .iaload, 0),
  (2386, .aload_n 0, 1, .aload 0, 0),
  (2387, .iload_n 3, 1, .iload 3, 0),
  (2388, .iconst 2, 1, .iconst 2, 0),
  (2389, .iadd, 1, .iadd, 0),
  (2390, .iaload, 1, .iaload, 0),
  (2391, .aload_n 0, 1, .aload 0, 0),
  (2392, .iload_n 3, 1, .iload 3, 0),
  (2393, .iconst 3, 1, .iconst 3, 0),
  (2394, .iadd, 1, .iadd, 0),
  (2395, .iaload, 1, .iaload, 0),
  (2396, .aload_n 0, 1, .aload 0, 0),
  (2397, .iload_n 3, 1, .iload 3, 0),
  (2398, .iconst 4, 1, .iconst 4, 0),
  (2399, .iadd, 1, .iadd, 0),
  (2400, .iaload, 1, .iaload, 0),
  (2401, .aload_n 0, 1, .aload 0, 0),
  (2402, .iload_n 3, 1, .iload 3, 0),
  (2403, .iconst 5, 1, .iconst 5, 0),
  (2404, .iadd, 1, .iadd, 0),
  (2405, .iaload, 1, .iaload, 0),
  (2406, .invokevirtual 311, 3, .invokevirtual 106, 6072),
  (2409, .aload_n 2, 1, .aload 2, 0),
  (2410, .aload_n 0, 1, .aload 0, 0),
  (2411, .iload_n 3, 1, .iload 3, 0),
  (2412, .iconst 1, 1, .iconst 1, 0),
  (2413, .iadd, 1, .iadd, 0),
  (2414, .iaload, 1, .iaload, 0),
  (2415, .aload_n 0, 1, .aload 0, 0),
  (2416, .iload_n 3, 1, .iload 3, 0),
  (2417, .iconst 2, 1, .iconst 2, 0),
  (2418, .iadd, 1, .iadd, 0),
  (2419, .iaload, 1, .iaload, 0),
  (2420, .aload_n 0, 1, .aload 0, 0),
  (2421, .iload_n 3, 1, .iload 3, 0),
  (2422, .iconst 3, 1, .iconst 3, 0),
  (2423, .iadd, 1, .iadd, 0),
  (2424, .iaload, 1, .iaload, 0),
  (2425, .aload_n 0, 1, .aload 0, 0),
  (2426, .iload_n 3, 1, .iload 3, 0),
  (2427, .iconst 4, 1, .iconst 4, 0),
  (2428, .iadd, 1, .iadd, 0),
  (2429, .iaload, 1, .iaload, 0),
  (2430, .aload_n 0, 1, .aload 0, 0),
  (2431, .iload_n 3, 1, .iload 3, 0),
  (2432, .iconst 5, 1, .iconst 5, 0),
  (2433, .iadd, 1, .iadd, 0),
  (2434, .iaload, 1, .iaload, 0),
  (2435, .invokevirtual 314, 3, .invokevirtual 195, 9136),
  (2438, .if_icmp .eq 5, 3, .if_icmp .eq 5, 0),
  (2441, .iconst 0, 1, .iconst 0, 0),
  (2442, .ireturn, 1, .ireturn, 0),
  (2443, .iinc 3 6, 3, .iinc 3 6, 0),
  (2446, .goto (-2428), 3, .goto (-2428), 0),
  (2449, .iconst 1, 1, .iconst 1, 0),
  (2450, .ireturn, 1, .ireturn, 0)]
def q_mLaw : q_MI := (⟨"SisterCountLaw", "law", "([I)Z"⟩, code, 4, some .boolean, q_cL, (14, 522, 1, 1), (0, 0, 0, 0))
end
section
theorem q_mem_T : ∀ (l : List Cond) (ps : List Nat), l = ps.filterMap (fun i => q_tat q_D i) → l.all goodWord = true → ∀ w ∈ l, w ∈ q_T q_D := by
  intro l ps hl hg w hw
  have h2 := List.all_eq_true.mp hg w hw
  rw [hl] at hw
  obtain ⟨i, -, hi⟩ := List.mem_filterMap.mp hw
  exact q_T_at hi h2
theorem q_gv_cl : ∀ (ci : Nat) (C : String) (T : u_T) (N : Nat), (q_gC q_D)[ci]? = some (C, T, N) → (∀ w ∈ u_ws C T N, w ∈ q_T q_D) ∧ (∀ k, k < N → parseFieldDescriptor (T k).2.2.1 = some (q_gY q_D ci k)) ∧ (∀ a, a < N → ∀ b, b < N → a ≠ b → (T a).2.1 ≠ (T b).2.1) ∧ Cond.instantiable C N ∈ q_T q_D ∧ Cond.initialized C ∈ q_T q_D := by
  intro ci C T N h
  match ci, h with
  | 0, h => cases h; exact ⟨q_mem_T _ [1195, 1197, 1199] (by decide +kernel) (by decide +kernel), tyX0_ok, nmX0, q_T_at (pos := 1187) (by decide +kernel) rfl, q_T_at (pos := 1005) (by decide +kernel) rfl⟩
  | 1, h => cases h; exact ⟨q_mem_T _ [1215, 1217, 1219, 1221, 1223, 1225] (by decide +kernel) (by decide +kernel), tyX1_ok, nmX1, q_T_at (pos := 1203) (by decide +kernel) rfl, q_T_at (pos := 1006) (by decide +kernel) rfl⟩
  | 2, h => cases h; exact ⟨q_mem_T _ [2043, 2045] (by decide +kernel) (by decide +kernel), tyX2_ok, nmX2, q_T_at (pos := 2036) (by decide +kernel) rfl, q_T_at (pos := 1009) (by decide +kernel) rfl⟩
  | 3, h => cases h; exact ⟨q_mem_T _ [2001, 2003, 2005, 2007, 2009, 2011, 2013] (by decide +kernel) (by decide +kernel), tyX3_ok, nmX3, q_T_at (pos := 1229) (by decide +kernel) rfl, q_T_at (pos := 1007) (by decide +kernel) rfl⟩
  | 4, h => cases h; exact ⟨q_mem_T _ [2026, 2028, 2030, 2032] (by decide +kernel) (by decide +kernel), tyX4_ok, nmX4, q_T_at (pos := 2017) (by decide +kernel) rfl, q_T_at (pos := 1008) (by decide +kernel) rfl⟩
  | 5, h => cases h; exact ⟨q_mem_T _ [1060, 1062, 1064, 1066, 1068, 1070, 1072] (by decide +kernel) (by decide +kernel), tyX5_ok, nmX5, q_T_at (pos := 1046) (by decide +kernel) rfl, q_T_at (pos := 1003) (by decide +kernel) rfl⟩
  | 6, h => cases h; exact ⟨q_mem_T _ [2061, 2063, 2065] (by decide +kernel) (by decide +kernel), tyX6_ok, nmX6, q_T_at (pos := 2048) (by decide +kernel) rfl, q_T_at (pos := 1010) (by decide +kernel) rfl⟩
  | 7, h => cases h; exact ⟨q_mem_T _ [1039, 1041] (by decide +kernel) (by decide +kernel), tyX7_ok, nmX7, q_T_at (pos := 1029) (by decide +kernel) rfl, q_T_at (pos := 1002) (by decide +kernel) rfl⟩
  | 8, h => cases h; exact ⟨q_mem_T _ [1145, 1147, 1149, 1151, 1153, 1155, 1157, 1159, 1161, 1163, 1165, 1167, 1169, 1171, 1173, 1175, 1177, 1179] (by decide +kernel) (by decide +kernel), tyX8_ok, nmX8, q_T_at (pos := 1076) (by decide +kernel) rfl, q_T_at (pos := 1004) (by decide +kernel) rfl⟩
  | 9, h => cases h; exact ⟨q_mem_T _ [2081, 2083, 2085, 2087, 2089, 2091, 2093, 2095, 2097, 2099, 2101, 2103] (by decide +kernel) (by decide +kernel), tyX9_ok, nmX9, q_T_at (pos := 1021) (by decide +kernel) rfl, q_T_at (pos := 1001) (by decide +kernel) rfl⟩
  | 10, h => cases h; exact ⟨q_mem_T _ [6123, 6125, 6127, 6129, 6131, 6133, 6135, 6137, 6139, 6141, 6143, 6145, 6147, 6149, 6151, 6153, 6155, 6157, 6159, 6161, 6163, 6165, 6167, 6169, 6171, 6173, 6175, 6177, 6179, 6181, 6183, 6185, 6187, 6189, 6191, 6193, 6195, 6197, 6199, 6201, 6203] (by decide +kernel) (by decide +kernel), tyX10_ok, nmX10, q_T_at (pos := 6078) (by decide +kernel) rfl, q_T_at (pos := 1011) (by decide +kernel) rfl⟩
  | k + 11, h => simp [q_gC, q_D, vwCl] at h
theorem q_gv : q_GV q_D := ⟨q_gv_cl, q_mem_T q_sys [3043, 3042, 1018, 1026, 1027] (by decide +kernel) (by decide +kernel)⟩
theorem q_lwT : ∀ w ∈ q_T q_D, w ∈ lw_tbl := by
  intro w hw
  have h := (List.mem_filter.mp hw).1
  simpa [q_gT, q_D, q_dT, lw_tbl, tables_1] using h
end
section
set_option maxRecDepth 100000 in
theorem q_okc0 : q_ch0.all (fun M => q_okH q_D M && z_okC q_D M) = true := by decide +kernel
set_option maxRecDepth 100000 in
theorem q_okc1 : q_ch1.all (fun M => q_okH q_D M && z_okC q_D M) = true := by decide +kernel
set_option maxRecDepth 100000 in
theorem q_okc2 : q_ch2.all (fun M => q_okH q_D M && z_okC q_D M) = true := by decide +kernel
set_option maxRecDepth 100000 in
theorem q_okc3 : q_ch3.all (fun M => q_okH q_D M && z_okC q_D M) = true := by decide +kernel
set_option maxRecDepth 100000 in
theorem q_okc4 : q_ch4.all (fun M => q_okH q_D M && z_okC q_D M) = true := by decide +kernel
set_option maxRecDepth 100000 in
theorem q_okL : z_okC q_D q_mLaw = true := by decide +kernel
theorem q_okAll : ∀ M ∈ q_gM q_D, q_okM q_D M := by
  have key : ∀ (l : List q_MI), l.all (fun M => q_okH q_D M && z_okC q_D M) = true → ∀ M ∈ l, q_okM q_D M := fun l h M hM => by
    have h1 := List.all_eq_true.mp h M hM
    simp only [Bool.and_eq_true] at h1
    exact ⟨h1.1, z_okC_ok h1.2⟩
  intro M hM
  have hM : M ∈ q_ch0 ++ q_ch1 ++ q_ch2 ++ q_ch3 ++ q_ch4 := hM
  simp only [List.mem_append] at hM
  rcases hM with ((((h | h) | h) | h) | h)
  · exact key _ q_okc0 M h
  · exact key _ q_okc1 M h
  · exact key _ q_okc2 M h
  · exact key _ q_okc3 M h
  · exact key _ q_okc4 M h
end
section
/-! THE ABSTRACT MACHINE: numbers by bounds of variables, cells exact in shape; every path is followed -/
abbrev a_N : Type := Bool × Option Nat × Int
abbrev a_V : Type := a_N ⊕ (Option Nat ⊕ Unit)
abbrev a_B : Type := List (Nat × Int × Int)
abbrev a_L : Type := List (Nat × a_V)
abbrev a_A : Type := Nat × Nat × ((Int × Int) ⊕ List a_N ⊕ Unit ⊕ List (Option Nat))
abbrev a_C : Type := a_A ⊕ (Nat × List a_V)
abbrev a_F : Type := q_MI × List q_I × a_L × List a_V
abbrev a_K : Type := Nat × a_B × List (a_N × a_N) × List a_F × List a_C
def a_rng (lg : Bool) : Int × Int := match lg with
  | true => (-9223372036854775808, 9223372036854775807)
  | false => (-2147483648, 2147483647)
def a_bd (B : a_B) (i : Nat) : Option (Int × Int) := match B with
  | [] => none
  | q :: B => match Nat.beq q.1 i with
    | true => some q.2
    | false => a_bd B i
def a_mx (a b : Int) : Int := if a ≤ b then b else a
def a_mn (a b : Int) : Int := if a ≤ b then a else b
def a_iv (B : a_B) (v : a_N) : Int × Int := match v.2.1 with
  | none => (v.2.2, v.2.2)
  | some i => match a_bd B i with
    | none => a_rng v.1
    | some q => (a_mx (q.1 + v.2.2) (a_rng v.1).1, a_mn (q.2 + v.2.2) (a_rng v.1).2)
/-- a number that is new, between two -/
def a_new (k : Nat) (B : a_B) (lg : Bool) (lo hi : Int) : Nat × a_B × a_N := (k + 1, (k, lo, hi) :: B, (lg, some k, 0))
def a_top (k : Nat) (B : a_B) (lg : Bool) : Nat × a_B × a_N := a_new k B lg (a_rng lg).1 (a_rng lg).2
/-- bounds made narrower by what is known of a number -/
def a_rf (B : a_B) (x : a_N) (lo hi : Int) : a_B := match x.2.1 with
  | none => B
  | some i => match a_bd B i with
    | none => (i, lo - x.2.2, hi - x.2.2) :: B
    | some q => (i, a_mx q.1 (lo - x.2.2), a_mn q.2 (hi - x.2.2)) :: B
def a_opp (c : Jvm.ClassFile.Cond) : Jvm.ClassFile.Cond := match c with
  | .eq => .ne
  | .ne => .eq
  | .lt => .ge
  | .ge => .lt
  | .gt => .le
  | .le => .gt
/-- what x c y says of x, by y's bounds b and x's own a -/
def a_lim (c : Jvm.ClassFile.Cond) (a b : Int × Int) : Int × Int := match c with
  | .eq => b
  | .ne => (if b.1 = b.2 ∧ a.1 = b.1 then (a.1 + 1, a.2) else if b.1 = b.2 ∧ a.2 = b.1 then (a.1, a.2 - 1) else a)
  | .lt => (a.1, b.2 - 1)
  | .ge => (b.1, a.2)
  | .gt => (b.1 + 1, a.2)
  | .le => (a.1, b.2)
def a_swp (c : Jvm.ClassFile.Cond) : Jvm.ClassFile.Cond := match c with
  | .eq => .eq
  | .ne => .ne
  | .lt => .gt
  | .ge => .le
  | .gt => .lt
  | .le => .ge
/-- bounds under x c y; none: it can't be -/
def a_asm (B : a_B) (c : Jvm.ClassFile.Cond) (x y : a_N) : Option a_B :=
  let a := a_iv B x
  let b := a_iv B y
  let p := a_lim c a b
  let q := a_lim (a_swp c) b a
  if a_mx a.1 p.1 ≤ a_mn a.2 p.2 ∧ a_mx b.1 q.1 ≤ a_mn b.2 q.2 then some (a_rf (a_rf B x p.1 p.2) y q.1 q.2) else none
def a_bin32 (k : Nat) (B : a_B) (op : Int32 → Int32 → Int32) (iv : Int × Int → Int × Int → Int × Int) (x y : a_N) : Nat × a_B × a_N :=
  let a := a_iv B x
  let b := a_iv B y
  if a.1 = a.2 ∧ b.1 = b.2 then (k, B, (false, none, (op (Int32.ofInt a.1) (Int32.ofInt b.1)).toInt)) else a_new k B false (iv a b).1 (iv a b).2
def a_bin64 (k : Nat) (B : a_B) (op : Int64 → Int64 → Int64) (iv : Int × Int → Int × Int → Int × Int) (x y : a_N) : Nat × a_B × a_N :=
  let a := a_iv B x
  let b := a_iv B y
  if a.1 = a.2 ∧ b.1 = b.2 then (k, B, (true, none, (op (Int64.ofInt a.1) (Int64.ofInt b.1)).toInt)) else a_new k B true (iv a b).1 (iv a b).2
def a_all32 (_ _ : Int × Int) : Int × Int := (-2147483648, 2147483647)
def a_all64 (_ _ : Int × Int) : Int × Int := (-9223372036854775808, 9223372036854775807)
/-- sums within the type's bounds, else anything -/
def a_sum (lg : Bool) (a b : Int × Int) : Int × Int := if (a_rng lg).1 ≤ a.1 + b.1 ∧ a.2 + b.2 ≤ (a_rng lg).2 then (a.1 + b.1, a.2 + b.2) else a_rng lg
def a_dif (lg : Bool) (a b : Int × Int) : Int × Int := if (a_rng lg).1 ≤ a.1 - b.2 ∧ a.2 - b.1 ≤ (a_rng lg).2 then (a.1 - b.2, a.2 - b.1) else a_rng lg
def a_mul (a b : Int × Int) : Int × Int := if 0 ≤ a.1 ∧ 0 ≤ b.1 ∧ a.2 * b.2 ≤ 2147483647 then (a.1 * b.1, a.2 * b.2) else (-2147483648, 2147483647)
def a_msk (a b : Int × Int) : Int × Int := if 0 ≤ b.1 then (0, b.2) else if 0 ≤ a.1 then (0, a.2) else (-2147483648, 2147483647)
def a_shr (a _ : Int × Int) : Int × Int := if 0 ≤ a.1 then (0, a.2) else (a.1, a_mx a.2 (-1))
def a_shf (B : a_B) (lg : Bool) (x : a_N) (d : Int) : Option a_N := if (a_rng lg).1 ≤ (a_iv B x).1 + d ∧ (a_iv B x).2 + d ≤ (a_rng lg).2 then some (lg, x.2.1, x.2.2 + d) else none
def a_add (k : Nat) (B : a_B) (x y : a_N) : Nat × a_B × a_N := match y.2.1, a_shf B false x y.2.2 with
  | none, some z => (k, B, z)
  | _, _ => a_bin32 k B (fun x y => x + y) (a_sum false) x y
def a_sub (k : Nat) (B : a_B) (x y : a_N) : Nat × a_B × a_N := match y.2.1, a_shf B false x (- y.2.2) with
  | none, some z => (k, B, z)
  | _, _ => a_bin32 k B (fun x y => x - y) (a_dif false) x y
abbrev a_P : Type := Nat × a_B × Nat × a_L × List a_V
def a_get (l : a_L) (k : Nat) : Option a_V := match l with
  | [] => none
  | q :: l => match Nat.beq q.1 k with
    | true => some q.2
    | false => a_get l k
def a_cat (v : a_V) : Nat := match v with
  | .inl (true, _, _) => 2
  | _ => 1
def a_s1 (l : a_L) (i : Nat) (v : a_V) : a_L := (i, v) :: l.filter (fun q => !(q.1 == i) && !(q.1 + 1 == i && a_cat q.2 == 2))
def a_s2 (l : a_L) (i : Nat) (v : a_V) : a_L := (i, v) :: l.filter (fun q => !(q.1 == i) && (!(q.1 == i + 1) && !(q.1 + 1 == i && a_cat q.2 == 2)))
/-- one number off: its place -/
def a_num (z : Nat × a_B × a_N) (pc : Nat) (l : a_L) (r : List a_V) : Option (List a_P) := some [(z.1, z.2.1, pc, l, .inl z.2.2 :: r)]
def a_arm (o : Option a_B) (k pc : Nat) (l : a_L) (st : List a_V) : List a_P := match o with
  | some B => [(k, B, pc, l, st)]
  | none => []
/-- the paths of a comparison; unlike: less, or greater -/
def a_pth (k : Nat) (B : a_B) (c : Jvm.ClassFile.Cond) (x y : a_N) (pc : Nat) (l : a_L) (r : List a_V) : List a_P := match c with
  | .ne => a_arm (a_asm B .lt x y) k pc l r ++ a_arm (a_asm B .gt x y) k pc l r
  | c => a_arm (a_asm B c x y) k pc l r
def a_br (k : Nat) (B : a_B) (pc len : Nat) (off : Int) (c : Jvm.ClassFile.Cond) (x y : a_N) (l : a_L) (r : List a_V) : Option (List a_P) :=
  if 0 ≤ (pc : Int) + off then some (a_pth k B c x y ((pc : Int) + off).toNat l r ++ a_pth k B (a_opp c) x y (pc + len) l r) else none
def a_to (k : Nat) (o : Option a_B) (pc : Nat) (off : Int) (l : a_L) (st : List a_V) : Option (List a_P) := match o with
  | none => some []
  | some B => if 0 ≤ (pc : Int) + off then some [(k, B, ((pc : Int) + off).toNat, l, st)] else none
def a_cats2 (x : Option (List a_P)) (y : Option (List a_P)) : Option (List a_P) := match x, y with
  | some a, some b => some (a ++ b)
  | _, _ => none
def a_tab (k : Nat) (B : a_B) (pc : Nat) (x : a_N) (l : a_L) (r : List a_V) : Int → List Int → Option (List a_P)
  | _, [] => some []
  | j, off :: offs => a_cats2 (a_to k (a_asm B .eq x (false, none, j)) pc off l r) (a_tab k B pc x l r (j + 1) offs)
def a_lkp (k : Nat) (pc : Nat) (x : a_N) (l : a_L) (r : List a_V) (d : Int) : Option a_B → List (Int × Int) → Option (List a_P)
  | none, _ => some []
  | some B, [] => a_to k (some B) pc d l r
  | some B, p :: ps => a_cats2 (a_to k (a_asm B .eq x (false, none, p.1)) pc p.2 l r) (a_lkp k pc x l r d (a_asm B .ne x (false, none, p.1)) ps)
def a_pure (k : Nat) (B : a_B) (nL pc len : Nat) (i : Instr) (l : a_L) (st : List a_V) : Option (List a_P) := match i with
  | .iconst n => some [(k, B, pc + len, l, .inl (false, none, (Int32.ofInt n).toInt) :: st)]
  | .goto_w n => some [(k, B, pc + len, l, .inl (true, none, (Int64.ofInt n).toInt) :: st)]
  | .iload j => (match a_get l j with | some (.inl (false, o, c)) => some [(k, B, pc + len, l, .inl (false, o, c) :: st)] | _ => none)
  | .lload j => (match a_get l j with | some (.inl (true, o, c)) => some [(k, B, pc + len, l, .inl (true, o, c) :: st)] | _ => none)
  | .aload j => (match a_get l j with | some (.inr (.inl (some a))) => some [(k, B, pc + len, l, .inr (.inl (some a)) :: st)] | some (.inr (.inr u)) => some [(k, B, pc + len, l, .inr (.inr u) :: st)] | _ => none)
  | .istore j => (match st with | .inl (false, o, c) :: r => if j < nL then some [(k, B, pc + len, a_s1 l j (.inl (false, o, c)), r)] else none | _ => none)
  | .astore j => (match st with | .inr (.inl (some a)) :: r => if j < nL then some [(k, B, pc + len, a_s1 l j (.inr (.inl (some a))), r)] else none | _ => none)
  | .lstore j => (match st with | .inl (true, o, c) :: r => if j + 1 < nL then some [(k, B, pc + len, a_s2 l j (.inl (true, o, c)), r)] else none | _ => none)
  | .iinc j n => (match a_get l j with | some (.inl (false, o, c)) => if j < nL then (match a_add k B (false, o, c) (false, none, (Int32.ofInt n).toInt) with | (k1, B1, z) => some [(k1, B1, pc + len, a_s1 l j (.inl z), st)]) else none | _ => none)
  | .iadd => (match st with | .inl (false, y) :: .inl (false, x) :: r => a_num (a_add k B (false, x) (false, y)) (pc + len) l r | _ => none)
  | .isub => (match st with | .inl (false, y) :: .inl (false, x) :: r => a_num (a_sub k B (false, x) (false, y)) (pc + len) l r | _ => none)
  | .imul => (match st with | .inl (false, y) :: .inl (false, x) :: r => a_num (a_bin32 k B (fun x y => x * y) a_mul (false, x) (false, y)) (pc + len) l r | _ => none)
  | .iand => (match st with | .inl (false, y) :: .inl (false, x) :: r => a_num (a_bin32 k B (fun x y => x &&& y) a_msk (false, x) (false, y)) (pc + len) l r | _ => none)
  | .ior => (match st with | .inl (false, y) :: .inl (false, x) :: r => a_num (a_bin32 k B (fun x y => x ||| y) a_all32 (false, x) (false, y)) (pc + len) l r | _ => none)
  | .ixor => (match st with | .inl (false, y) :: .inl (false, x) :: r => a_num (a_bin32 k B (fun x y => x ^^^ y) a_all32 (false, x) (false, y)) (pc + len) l r | _ => none)
  | .ishl => (match st with | .inl (false, y) :: .inl (false, x) :: r => a_num (a_bin32 k B (fun x y => x <<< (y &&& 31)) a_all32 (false, x) (false, y)) (pc + len) l r | _ => none)
  | .ishr => (match st with | .inl (false, y) :: .inl (false, x) :: r => a_num (a_bin32 k B (fun x y => x >>> (y &&& 31)) a_shr (false, x) (false, y)) (pc + len) l r | _ => none)
  | .iushr => (match st with | .inl (false, y) :: .inl (false, x) :: r => a_num (a_bin32 k B (fun x y => (x.toUInt32 >>> (y.toUInt32 &&& Int32.toUInt32 31)).toInt32) a_all32 (false, x) (false, y)) (pc + len) l r | _ => none)
  | .idiv => (match st with | .inl (false, y) :: .inl (false, x) :: r => if 0 < (a_iv B (false, y)).1 ∨ (a_iv B (false, y)).2 < 0 then a_num (a_bin32 k B (fun x y => x / y) a_all32 (false, x) (false, y)) (pc + len) l r else none | _ => none)
  | .irem => (match st with | .inl (false, y) :: .inl (false, x) :: r => if 0 < (a_iv B (false, y)).1 ∨ (a_iv B (false, y)).2 < 0 then a_num (a_bin32 k B (fun x y => x - x / y * y) a_all32 (false, x) (false, y)) (pc + len) l r else none | _ => none)
  | .ladd => (match st with | .inl (true, y) :: .inl (true, x) :: r => a_num (a_bin64 k B (fun x y => x + y) (a_sum true) (true, x) (true, y)) (pc + len) l r | _ => none)
  | .lsub => (match st with | .inl (true, y) :: .inl (true, x) :: r => a_num (a_bin64 k B (fun x y => x - y) (a_dif true) (true, x) (true, y)) (pc + len) l r | _ => none)
  | .lmul => (match st with | .inl (true, y) :: .inl (true, x) :: r => a_num (a_bin64 k B (fun x y => x * y) a_all64 (true, x) (true, y)) (pc + len) l r | _ => none)
  | .land => (match st with | .inl (true, _) :: .inl (true, _) :: r => a_num (a_top k B true) (pc + len) l r | _ => none)
  | .lor => (match st with | .inl (true, _) :: .inl (true, _) :: r => a_num (a_top k B true) (pc + len) l r | _ => none)
  | .lshl => (match st with | .inl (false, _) :: .inl (true, _) :: r => a_num (a_top k B true) (pc + len) l r | _ => none)
  | .lshr => (match st with | .inl (false, _) :: .inl (true, _) :: r => a_num (a_top k B true) (pc + len) l r | _ => none)
  | .i2l => (match st with | .inl (false, x) :: r => some [(k, (match x.1 with | some _ => a_rf B (false, x) (a_iv B (false, x)).1 (a_iv B (false, x)).2 | none => B), pc + len, l, .inl (true, x) :: r)] | _ => none)
  | .l2i => (match st with | .inl (true, x) :: r => if -2147483648 ≤ (a_iv B (true, x)).1 ∧ (a_iv B (true, x)).2 ≤ 2147483647 then some [(k, B, pc + len, l, .inl (false, x) :: r)] else a_num (a_top k B false) (pc + len) l r | _ => none)
  | .i2b => (match st with | .inl (false, x) :: r => if -128 ≤ (a_iv B (false, x)).1 ∧ (a_iv B (false, x)).2 ≤ 127 then some [(k, B, pc + len, l, .inl (false, x) :: r)] else a_num (a_new k B false (-128) 127) (pc + len) l r | _ => none)
  | .i2s => (match st with | .inl (false, x) :: r => if -32768 ≤ (a_iv B (false, x)).1 ∧ (a_iv B (false, x)).2 ≤ 32767 then some [(k, B, pc + len, l, .inl (false, x) :: r)] else a_num (a_new k B false (-32768) 32767) (pc + len) l r | _ => none)
  | .ineg => (match st with | .inl (false, x) :: r => a_num (a_bin32 k B (fun x y => - y) a_all32 (false, none, 0) (false, x)) (pc + len) l r | _ => none)
  | .lcmp => (match st with | .inl (true, y) :: .inl (true, x) :: r => some (a_arm (a_asm B .lt (true, x) (true, y)) k (pc + len) l (.inl (false, none, -1) :: r) ++ a_arm (a_asm B .eq (true, x) (true, y)) k (pc + len) l (.inl (false, none, 0) :: r) ++ a_arm (a_asm B .gt (true, x) (true, y)) k (pc + len) l (.inl (false, none, 1) :: r)) | _ => none)
  | .dup => (match st with | v :: r => if a_cat v = 1 then some [(k, B, pc + len, l, v :: v :: r)] else none | _ => none)
  | .pop => (match st with | v :: r => if a_cat v = 1 then some [(k, B, pc + len, l, r)] else none | _ => none)
  | .dup2 => (match st with | a :: b :: r => if a_cat a = 1 ∧ a_cat b = 1 then some [(k, B, pc + len, l, a :: b :: a :: b :: r)] else none | _ => none)
  | .pop2 => (match st with | a :: r => if a_cat a = 2 then some [(k, B, pc + len, l, r)] else none | _ => none)
  | .ifCond c off => (match st with | .inl (false, x) :: r => a_br k B pc len off c (false, x) (false, none, 0) l r | _ => none)
  | .if_icmp c off => (match st with | .inl (false, y) :: .inl (false, x) :: r => a_br k B pc len off c (false, x) (false, y) l r | _ => none)
  | .goto off => a_to k (some B) pc off l st
  | .tableswitch d lo hi offs => (match st with | .inl (false, x) :: r => if (offs.size : Int) = hi - lo + 1 then a_cats2 (a_tab k B pc (false, x) l r lo offs.toList) (a_cats2 (a_to k (a_asm B .lt (false, x) (false, none, lo)) pc d l r) (a_to k (a_asm B .gt (false, x) (false, none, hi)) pc d l r)) else none | _ => none)
  | .lookupswitch d ps => (match st with | .inl (false, x) :: r => if (ps.toList.zip (ps.toList.drop 1)).all (fun (a, next) => a.1 < next.1) = true then a_lkp k pc (false, x) l r d (some B) ps.toList else none | _ => none)
  | _ => none
end
section
abbrev a_Q : Type := Nat × a_B × List a_V × List a_C
def a_hul (B : a_B) : List a_N → Int × Int
  | [] => (0, 0)
  | [x] => a_iv B x
  | x :: xs => (a_mn (a_iv B x).1 (a_hul B xs).1, a_mx (a_iv B x).2 (a_hul B xs).2)
def a_put (B : a_B) (c : (Int × Int) ⊕ List a_N ⊕ Unit ⊕ List (Option Nat)) (i : Int × Int) (v : a_N) : Option ((Int × Int) ⊕ List a_N ⊕ Unit ⊕ List (Option Nat)) := match c with
  | .inl q => some (.inl (a_mn q.1 (a_iv B v).1, a_mx q.2 (a_iv B v).2))
  | .inr (.inl vs) => if i.1 = i.2 then some (.inr (.inl (vs.set i.1.toNat v))) else some (.inl (a_mn (a_hul B vs).1 (a_iv B v).1, a_mx (a_hul B vs).2 (a_iv B v).2))
  | _ => none
def a_rd (k : Nat) (B : a_B) (c : (Int × Int) ⊕ List a_N ⊕ Unit ⊕ List (Option Nat)) (i : Int × Int) : Option (Nat × a_B × a_N) := match c with
  | .inl q => some (if q.1 = q.2 then (k, B, (false, none, q.1)) else a_new k B false q.1 q.2)
  | .inr (.inl vs) => if i.1 = i.2 then (match vs[i.1.toNat]? with | some v => some (k, B, v) | none => none) else some (a_new k B false (a_hul B vs).1 (a_hul B vs).2)
  | _ => none
def a_fit (ty : FieldType) (v : a_V) : Bool := match ty, v with
  | .int, .inl (false, _, _) => true
  | .long, .inl (true, _, _) => true
  | .object _, .inr (.inl _) => true
  | .array _, .inr (.inl _) => true
  | _, _ => false
def a_ref (k : Nat) (B : a_B) (x : a_N) (r : List a_V) (m : List a_C) : Int → List (Option Nat) → List a_Q
  | _, [] => []
  | j, o :: os => (match a_asm B .eq x (false, none, j) with | some B1 => [(k, B1, .inr (.inl o) :: r, m)] | none => []) ++ a_ref k B x r m (j + 1) os
def a_ac (v : List a_V) : Nat := (v.map a_cat).sum
def a_in (B : a_B) (x : a_N) (n : Nat) : Bool := decide (0 ≤ (a_iv B x).1 ∧ (a_iv B x).2 < (n : Int))
def a_cpy (k : Nat) (B : a_B) (r : List a_V) (m : List a_C) (j d : Nat) (sp dp w : Int × Int) : Option (List a_Q) := match m[j]?, m[d]? with
  | some (.inl (t0, n0, .inl q)), some (.inl (t1, n1, .inl p)) => if t0 = 0 ∧ t1 = 0 ∧ 0 ≤ sp.1 ∧ 0 ≤ dp.1 ∧ 0 ≤ w.1 ∧ sp.2 + w.2 ≤ (n0 : Int) ∧ dp.2 + w.2 ≤ (n1 : Int) then some [(k, B, r, m.set d (.inl (t1, n1, .inl (a_mn q.1 p.1, a_mx q.2 p.2))))] else none
  | some (.inl (t0, n0, .inr (.inr (.inl u)))), some (.inl (t1, n1, .inr (.inr (.inl _)))) => if t0 = 1 ∧ t1 = 1 ∧ 0 ≤ sp.1 ∧ 0 ≤ dp.1 ∧ 0 ≤ w.1 ∧ sp.2 + w.2 ≤ (n0 : Int) ∧ dp.2 + w.2 ≤ (n1 : Int) then some [(k, B, r, m.set d (.inl (t1, n1, .inr (.inr (.inl u)))))] else none
  | _, _ => none
def a_mem (G : q_G) (k : Nat) (B : a_B) (fr lo : Nat) (i : Instr) (st : List a_V) (m : List a_C) : Option (List a_Q) := match i with
  | .getfield n => (match st with | .inr (.inl (some a)) :: r => (match m[a]? with | some (.inr (ci, fs)) => if ci = n / 64 then (match fs[n % 64]? with | some v => some [(k, B, v :: r, m)] | none => none) else none | _ => none) | _ => none)
  | .putfield n => (match st with | v :: .inr (.inl (some a)) :: r => (match m[a]? with | some (.inr (ci, fs)) => if ci = n / 64 ∧ n % 64 < fs.length ∧ a_fit (q_gY G ci (n % 64)) v = true then some [(k, B, r, m.set a (.inr (ci, fs.set (n % 64) v)))] else none | _ => none) | _ => none)
  | .iaload => (match st with | .inl (false, x) :: .inr (.inl (some a)) :: r => (match m[a]? with | some (.inl (t, n, c)) => if t = 0 ∧ a_in B (false, x) n = true then (match a_rd k B c (a_iv B (false, x)) with | some z => some [(z.1, z.2.1, .inl z.2.2 :: r, m)] | none => none) else none | _ => none) | _ => none)
  | .baload => (match st with | .inl (false, x) :: .inr (.inl (some a)) :: r => (match m[a]? with | some (.inl (t, n, c)) => if (t = 2 ∨ t = 3) ∧ a_in B (false, x) n = true then (match a_rd k B c (a_iv B (false, x)) with | some z => some [(z.1, z.2.1, .inl z.2.2 :: r, m)] | none => none) else none | _ => none) | _ => none)
  | .laload => (match st with | .inl (false, x) :: .inr (.inl (some a)) :: r => (match m[a]? with | some (.inl (t, n, .inr (.inr (.inl _)))) => if t = 1 ∧ a_in B (false, x) n = true then (match a_top k B true with | z => some [(z.1, z.2.1, .inl z.2.2 :: r, m)]) else none | _ => none) | _ => none)
  | .aaload => (match st with | .inl (false, x) :: .inr (.inl (some a)) :: r => (match m[a]? with | some (.inl (t, n, .inr (.inr (.inr rs)))) => if 4 ≤ t ∧ t < (q_gA G).length ∧ a_in B (false, x) n = true ∧ rs.length = n then some (a_ref k B (false, x) r m 0 rs) else none | _ => none) | _ => none)
  | .iastore => (match st with | .inl (false, v) :: .inl (false, x) :: .inr (.inl (some a)) :: r => (match m[a]? with | some (.inl (t, n, c)) => if t = 0 ∧ a_in B (false, x) n = true then (match a_put B c (a_iv B (false, x)) (false, v) with | some c1 => some [(k, B, r, m.set a (.inl (t, n, c1)))] | none => none) else none | _ => none) | _ => none)
  | .bastore => (match st with | .inl (false, _) :: .inl (false, x) :: .inr (.inl (some a)) :: r => (match m[a]? with | some (.inl (t, n, .inl q)) => if a_in B (false, x) n = true then (if t = 2 then some [(k, B, r, m.set a (.inl (t, n, .inl (a_mn q.1 (-128), a_mx q.2 127))))] else if t = 3 then some [(k, B, r, m.set a (.inl (t, n, .inl (a_mn q.1 0, a_mx q.2 1))))] else none) else none | _ => none) | _ => none)
  | .lastore => (match st with | .inl (true, _) :: .inl (false, x) :: .inr (.inl (some a)) :: r => (match m[a]? with | some (.inl (t, n, .inr (.inr (.inl _)))) => if t = 1 ∧ a_in B (false, x) n = true then some [(k, B, r, m)] else none | _ => none) | _ => none)
  | .aastore => (match st with | .inr (.inl (some v)) :: .inl (false, x) :: .inr (.inl (some a)) :: r => (match m[a]?, m[v]? with | some (.inl (t, n, .inr (.inr (.inr rs)))), some (.inr (ci, _)) => if 4 ≤ t ∧ a_in B (false, x) n = true ∧ (a_iv B (false, x)).1 = (a_iv B (false, x)).2 ∧ ((q_gC G)[ci]?.map fun z => FieldType.object z.1) = (q_gA G)[t]? ∧ ((q_gA G)[t]?).isSome = true then some [(k, B, r, m.set a (.inl (t, n, .inr (.inr (.inr (rs.set (a_iv B (false, x)).1.toNat (some v)))))))] else none | _, _ => none) | _ => none)
  | .arraylength => (match st with | .inr (.inl (some a)) :: r => (match m[a]? with | some (.inl (t, n, _)) => if t < (q_gA G).length ∧ n < 2147483648 then some [(k, B, .inl (false, none, (n : Int)) :: r, m)] else none | _ => none) | _ => none)
  | .invokedynamic n => if n = 0 then (match st with | .inr (.inl (some _)) :: r => if 1 ≤ fr ∧ a_ac r + 12 ≤ lo then some [(k, B, r, m)] else none | _ => none)
      else if n = 1 then (match st with | .inl (false, w) :: .inl (false, dp) :: .inr (.inl (some d)) :: .inl (false, sp) :: .inr (.inl (some j)) :: r => if 1 ≤ fr ∧ a_ac r + 18 ≤ lo then a_cpy k B r m j d (a_iv B (false, sp)) (a_iv B (false, dp)) (a_iv B (false, w)) else none | _ => none)
      else none
  | _ => none
def a_dft (ty : FieldType) : Option a_V := match ty with
  | .int => some (.inl (false, none, 0))
  | .long => some (.inl (true, none, 0))
  | .object _ => some (.inr (.inl none))
  | .array _ => some (.inr (.inl none))
  | _ => none
def a_dfs (Y : Nat → FieldType) : Nat → Option (List a_V)
  | 0 => some []
  | n + 1 => match a_dfs Y n, a_dft (Y n) with
    | some l, some v => some (l ++ [v])
    | _, _ => none
def a_cel (G : q_G) (B : a_B) (i : Instr) (st : List a_V) (m : List a_C) : Option (List a_V × a_C) := match i with
  | .new ci => (match (q_gC G)[ci]? with | some (_, _, N) => (match a_dfs (q_gY G ci) N with | some l => some (.inr (.inl (some m.length)) :: st, .inr (ci, l)) | none => none) | none => none)
  | .newarray a => (match st with | .inl (false, w) :: r => if (a_iv B (false, w)).1 = (a_iv B (false, w)).2 ∧ 0 ≤ (a_iv B (false, w)).1 ∧ (a_iv B (false, w)).1 ≤ 60000000 ∧ q_tag a < 4 then some (.inr (.inl (some m.length)) :: r, .inl (q_tag a, (a_iv B (false, w)).1.toNat, if a = .long then .inr (.inr (.inl ())) else if a = .int ∧ (a_iv B (false, w)).1 ≤ 4 then .inr (.inl (List.replicate (a_iv B (false, w)).1.toNat (false, none, 0))) else .inl (0, 0))) else none | _ => none)
  | .anewarray t => (match st with | .inl (false, w) :: r => if (a_iv B (false, w)).1 = (a_iv B (false, w)).2 ∧ 0 ≤ (a_iv B (false, w)).1 ∧ (a_iv B (false, w)).1 ≤ 60000000 then some (.inr (.inl (some m.length)) :: r, .inl (t, (a_iv B (false, w)).1.toNat, .inr (.inr (.inr (List.replicate (a_iv B (false, w)).1.toNat none))))) else none | _ => none)
  | _ => none
def a_lk (i : Instr) (st : List a_V) : Option (List a_V) := match i with
  | .sipush n => some (.inl (false, none, (Int32.ofInt n).toInt) :: st)
  | .jsr_w n => some (.inl (true, none, (Int64.ofInt n).toInt) :: st)
  | _ => none
def a_sz (x : a_C) : Nat := match x with
  | .inl (_, n, _) => n
  | .inr (_, fs) => fs.length
def a_sl (m : List a_C) : Nat := (m.map a_sz).sum
def a_jmp (C : List q_I) (pc : Nat) : List q_I := match C with
  | [] => []
  | I :: C => match Nat.blt I.1 pc with
    | true => a_jmp C pc
    | false => I :: C
/-- where the code goes on: at once behind, or by a jump; the place must be met -/
def a_at (M : q_MI) (tl : List q_I) (pc : Nat) : Option (List q_I) := match tl with
  | I :: tl => if I.1 = pc then some (I :: tl) else (match a_jmp (q_mC M) pc with | J :: l => if J.1 = pc then some (J :: l) else none | [] => none)
  | [] => (match a_jmp (q_mC M) pc with | J :: l => if J.1 = pc then some (J :: l) else none | [] => none)
def a_rcv (G : q_G) (M : q_MI) (as : List a_V) (m : List a_C) : Bool := match q_mK M with
  | 1 => true
  | 0 => (match as with | .inr (.inl (some a)) :: _ => (match m[a]? with | some (.inr (ci, _)) => decide ((q_gC G)[ci]?.map (fun z => z.1) = some (q_mY M).cls) | _ => false) | _ => false)
  | _ => (match as with | .inr (.inl (some _)) :: _ => true | _ => false)
def a_lvs : Nat → List a_V → a_L
  | _, [] => []
  | i, v :: vs => (i, v) :: a_lvs (if a_cat v = 2 then i + 2 else i + 1) vs
def a_call (G : q_G) (M : q_MI) (k : Nat) (st : List a_V) (m : List a_C) : Option (q_MI × List a_V × List a_V) := match (q_gM G)[k]? with
  | none => none
  | some M1 => if q_na M1 ≤ st.length ∧ a_ac (st.drop (q_na M1)) ≤ 8 ∧ q_mF M1 + 1 ≤ q_mF M ∧ 8 + (q_mL M1 + 11) + q_mO M1 ≤ q_mO M ∧ a_ac (st.take (q_na M1)) ≤ q_mL M1 ∧ a_rcv G M1 (st.take (q_na M1)).reverse m = true
    then some (M1, (st.take (q_na M1)).reverse, st.drop (q_na M1)) else none
def a_ret (B : a_B) (M : q_MI) (i : Instr) (st : List a_V) : Option (List a_V) := match i with
  | .ireturn => (match st with | [.inl (false, x)] => (match q_mR M with | some .int => some [.inl (false, x)] | some .boolean => if 0 ≤ (a_iv B (false, x)).1 ∧ (a_iv B (false, x)).2 ≤ 1 then some [.inl (false, x)] else none | _ => none) | _ => none)
  | .lreturn => (match st with | [.inl (true, x)] => if q_mR M = some .long then some [.inl (true, x)] else none | _ => none)
  | .return_ => (match st with | [] => if q_mR M = none then some [] else none | _ => none)
  | _ => none
def a_eqn (x y : a_N) : Bool := decide (x.2.1 = y.2.1 ∧ x.2.2 = y.2.2)
def a_mmo (S : List (a_N × a_N)) (x : a_N) : Option a_N := match S with
  | [] => none
  | q :: S => match a_eqn q.1 x with
    | true => some q.2
    | false => a_mmo S x
/-- the script read: a number that was read before is the same; L is the variable 0 -/
def a_scr (k : Nat) (B : a_B) (S : List (a_N × a_N)) (i : Instr) (st : List a_V) : Option (Nat × a_B × List (a_N × a_N) × List a_V) := match i with
  | .iaload => (match st with | .inl (false, x) :: .inr (.inr ()) :: r => (match a_mmo S (false, x) with
      | some v => some (k, B, S, .inl v :: r)
      | none => if 0 ≤ (a_iv B (false, x)).1 ∧ (a_iv B (false, x)).2 < (a_iv B (true, some 0, 0)).1 then (match a_top k B false with | z => some (z.1, z.2.1, ((false, x), z.2.2) :: S, .inl z.2.2 :: r)) else none) | _ => none)
  | .arraylength => (match st with | .inr (.inr ()) :: r => some (k, B, S, .inl (false, some 0, 0) :: r) | _ => none)
  | _ => none
def a_nxt (M : q_MI) (tl : List q_I) (fs : List a_F) (S : List (a_N × a_N)) (m : List a_C) : List a_P → Option (List a_K)
  | [] => some []
  | p :: ps => match a_at M tl p.2.2.1, a_nxt M tl fs S m ps with
    | some c, some l => some ((p.1, p.2.1, S, (M, c, p.2.2.2.1, p.2.2.2.2) :: fs, m) :: l)
    | _, _ => none
def a_nxm (M : q_MI) (c : List q_I) (l : a_L) (fs : List a_F) (S : List (a_N × a_N)) (ps : List a_Q) : List a_K := ps.map (fun p => (p.1, p.2.1, S, (M, c, l, p.2.2.1) :: fs, p.2.2.2))
def a_step (G : q_G) (mx ml : Nat) (K : a_K) : Option (List a_K) := match K with
  | (_, _, _, [], _) => none
  | (_, _, _, (_, [], _, _) :: _, _) => none
  | (k, B, S, (M, (pc, _, len, i, _) :: tl, l, st) :: fs, m) => match q_grp i with
    | 0 => (match a_pure k B (q_mL M) pc len i l st with | some ps => a_nxt M tl fs S m ps | none => none)
    | 1 => (match a_at M tl (pc + len) with
        | some c => (match fs with
            | [] => (match a_scr k B S i st with | some (k1, B1, S1, st1) => some [(k1, B1, S1, [(M, c, l, st1)], m)] | none => none)
            | _ :: _ => (match a_mem G k B (q_mF M) (q_mO M) i st m with | some ps => some (a_nxm M c l fs S ps) | none => none))
        | none => none)
    | 2 => (match a_at M tl (pc + len), a_cel G B i st m with | some c, some (st1, x) => some [(k, B, S, (M, c, l, st1) :: fs, m ++ [x])] | _, _ => none)
    | 3 => (match q_cnum i with
        | some j => (match a_at M tl (pc + len), a_call G M j st m with
            | some c, some (M1, as, rest) => (match a_at M1 (q_mC M1) 0 with | some c1 => some [(k, B, S, (M1, c1, a_lvs 0 as, []) :: (M, c, l, rest) :: fs, m)] | none => none)
            | _, _ => none)
        | none => (match fs with
            | [] => (match i, st with | .ireturn, [.inl (false, x)] => if (a_iv B (false, x)).1 = 1 ∧ (a_iv B (false, x)).2 = 1 ∧ m.length ≤ mx ∧ a_sl m ≤ ml then some [] else none | _, _ => none)
            | (M2, c2, l2, st2) :: fs2 => (match a_ret B M i st with | some r => some [(k, B, S, (M2, c2, l2, r ++ st2) :: fs2, m)] | none => none)))
    | _ => (match a_at M tl (pc + len), a_lk i st with | some c, some st1 => some [(k, B, S, (M, c, l, st1) :: fs, m)] | _, _ => none)
/-- every path comes to the law's end with 1 -/
noncomputable def a_run (G : q_G) (mx ml : Nat) (n : Nat) : a_K → Bool := Nat.rec (motive := fun _ => a_K → Bool) (fun _ => false) (fun _ ih K => match a_step G mx ml K with
  | none => false
  | some [] => true
  | some [K1] => ih K1
  | some Ks => Ks.all ih) n
end
section
/-! WHAT THE ABSTRACT THINGS MEAN: v gives the variables' values -/
def g_lin (v : List Int) (o : Option Nat) (c z : Int) : Prop := match o with
  | none => z = c
  | some i => ∃ w, v[i]? = some w ∧ z = w + c
def g_n (v : List Int) (x : a_N) (y : Value) : Prop := match x.1 with
  | false => ∃ z : Int32, y = .int z ∧ g_lin v x.2.1 x.2.2 z.toInt
  | true => ∃ z : Int64, y = .long z ∧ g_lin v x.2.1 x.2.2 z.toInt
def g_v (b : Nat) (v : List Int) (x : a_V) (y : Value) : Prop := match x with
  | .inl n => g_n v n y
  | .inr (.inl (some k)) => y = .ref k
  | .inr (.inl none) => y = .null
  | .inr (.inr _) => y = .retAddr b
def g_B (v : List Int) (B : a_B) : Prop := ∀ q ∈ B, ∃ w, v[q.1]? = some w ∧ q.2.1 ≤ w ∧ w ≤ q.2.2
def g_2 {α β : Type} (R : α → β → Prop) : List α → List β → Prop
  | [], [] => True
  | a :: as, b :: bs => R a b ∧ g_2 R as bs
  | _, _ => False
theorem g_2_len {α β : Type} {R : α → β → Prop} : ∀ {as : List α} {bs : List β}, g_2 R as bs → as.length = bs.length
  | [], [], _ => rfl
  | a :: as, b :: bs, h => by simp [g_2_len h.2]
  | [], _ :: _, h => h.elim
  | _ :: _, [], h => h.elim
theorem g_2_get {α β : Type} {R : α → β → Prop} : ∀ {as : List α} {bs : List β}, g_2 R as bs → ∀ {i : Nat} {a : α}, as[i]? = some a → ∃ b, bs[i]? = some b ∧ R a b
  | [], [], _, i, a, h => by simp at h
  | x :: as, y :: bs, hh, 0, a, h => by
    simp at h
    subst h
    exact ⟨y, by simp, hh.1⟩
  | x :: as, y :: bs, hh, i + 1, a, h => by
    simp at h
    obtain ⟨b, h1, h2⟩ := g_2_get hh.2 h
    exact ⟨b, by simpa using h1, h2⟩
  | [], _ :: _, hh, _, _, _ => hh.elim
  | _ :: _, [], hh, _, _, _ => hh.elim
theorem g_2_mono {α β : Type} {R S : α → β → Prop} (hRS : ∀ a b, R a b → S a b) : ∀ {as : List α} {bs : List β}, g_2 R as bs → g_2 S as bs
  | [], [], _ => trivial
  | a :: as, b :: bs, h => ⟨hRS _ _ h.1, g_2_mono hRS h.2⟩
  | [], _ :: _, h => h.elim
  | _ :: _, [], h => h.elim
theorem g_2_set {α β : Type} {R : α → β → Prop} : ∀ {as : List α} {bs : List β}, g_2 R as bs → ∀ {i : Nat} {a : α} {b : β}, R a b → g_2 R (as.set i a) (bs.set i b)
  | [], [], _, i, a, b, _ => trivial
  | x :: as, y :: bs, hh, 0, a, b, h => ⟨h, hh.2⟩
  | x :: as, y :: bs, hh, i + 1, a, b, h => ⟨hh.1, g_2_set hh.2 h⟩
  | [], _ :: _, hh, _, _, _, _ => hh.elim
  | _ :: _, [], hh, _, _, _, _ => hh.elim
theorem g_2_app {α β : Type} {R : α → β → Prop} : ∀ {as : List α} {bs : List β} {cs : List α} {ds : List β}, g_2 R as bs → g_2 R cs ds → g_2 R (as ++ cs) (bs ++ ds)
  | [], [], cs, ds, _, h => h
  | x :: as, y :: bs, cs, ds, hh, h => ⟨hh.1, g_2_app hh.2 h⟩
  | [], _ :: _, _, _, hh, _ => hh.elim
  | _ :: _, [], _, _, hh, _ => hh.elim
theorem g_2_take {α β : Type} {R : α → β → Prop} : ∀ (n : Nat) {as : List α} {bs : List β}, g_2 R as bs → g_2 R (as.take n) (bs.take n)
  | 0, _, _, _ => by simp [g_2]
  | n + 1, [], [], _ => by simp [g_2]
  | n + 1, x :: as, y :: bs, hh => ⟨hh.1, g_2_take n hh.2⟩
  | _ + 1, [], _ :: _, hh => hh.elim
  | _ + 1, _ :: _, [], hh => hh.elim
theorem g_2_drop {α β : Type} {R : α → β → Prop} : ∀ (n : Nat) {as : List α} {bs : List β}, g_2 R as bs → g_2 R (as.drop n) (bs.drop n)
  | 0, _, _, h => h
  | n + 1, [], [], _ => by simp [g_2]
  | n + 1, x :: as, y :: bs, hh => g_2_drop n hh.2
  | _ + 1, [], _ :: _, hh => hh.elim
  | _ + 1, _ :: _, [], hh => hh.elim
theorem g_2_rev {α β : Type} {R : α → β → Prop} : ∀ {as : List α} {bs : List β}, g_2 R as bs → g_2 R as.reverse bs.reverse
  | [], [], _ => trivial
  | x :: as, y :: bs, hh => by
    rw [List.reverse_cons, List.reverse_cons]
    exact g_2_app (g_2_rev hh.2) ⟨hh.1, trivial⟩
  | [], _ :: _, hh => hh.elim
  | _ :: _, [], hh => hh.elim
theorem g_lin_ext {v t : List Int} {o : Option Nat} {c z : Int} (h : g_lin v o c z) : g_lin (v ++ t) o c z := by
  cases o with
  | none => exact h
  | some i =>
    obtain ⟨w, h1, h2⟩ := h
    exact ⟨w, by rw [List.getElem?_append_left (List.getElem?_eq_some_iff.mp h1).1]; exact h1, h2⟩
theorem g_n_ext {v t : List Int} {x : a_N} {y : Value} (h : g_n v x y) : g_n (v ++ t) x y := by
  obtain ⟨lg, o, c⟩ := x
  cases lg with
  | false =>
    obtain ⟨z, h1, h2⟩ := h
    exact ⟨z, h1, g_lin_ext h2⟩
  | true =>
    obtain ⟨z, h1, h2⟩ := h
    exact ⟨z, h1, g_lin_ext h2⟩
theorem g_v_ext {b : Nat} {v t : List Int} {x : a_V} {y : Value} (h : g_v b v x y) : g_v b (v ++ t) x y := by
  match x, h with
  | .inl n, h => exact g_n_ext h
  | .inr (.inl (some k)), h => exact h
  | .inr (.inl none), h => exact h
  | .inr (.inr _), h => exact h
theorem g_B_ext {v t : List Int} {B : a_B} (h : g_B v B) : g_B (v ++ t) B := by
  intro q hq
  obtain ⟨w, h1, h2⟩ := h q hq
  exact ⟨w, by rw [List.getElem?_append_left (List.getElem?_eq_some_iff.mp h1).1]; exact h1, h2⟩
theorem g_bd {v : List Int} : ∀ {B : a_B}, g_B v B → ∀ {i : Nat} {q : Int × Int}, a_bd B i = some q → ∃ w, v[i]? = some w ∧ q.1 ≤ w ∧ w ≤ q.2
  | [], _, i, q, h => by simp [a_bd] at h
  | p :: B, hB, i, q, h => by
    unfold a_bd at h
    split at h
    · rename_i hb
      have hb := Nat.eq_of_beq_eq_true hb
      cases h
      subst hb
      exact hB p List.mem_cons_self
    · exact g_bd (fun z hz => hB z (List.mem_cons_of_mem _ hz)) h
theorem a_mx_le {a b c : Int} (h1 : a ≤ c) (h2 : b ≤ c) : a_mx a b ≤ c := by unfold a_mx; split <;> assumption
theorem a_mn_ge {a b c : Int} (h1 : c ≤ a) (h2 : c ≤ b) : c ≤ a_mn a b := by unfold a_mn; split <;> assumption
theorem a_mx_l (a b : Int) : a ≤ a_mx a b := by unfold a_mx; split <;> omega
theorem a_mx_r (a b : Int) : b ≤ a_mx a b := by unfold a_mx; split <;> omega
theorem a_mn_l (a b : Int) : a_mn a b ≤ a := by unfold a_mn; split <;> omega
theorem a_mn_r (a b : Int) : a_mn a b ≤ b := by unfold a_mn; split <;> omega
def g_in (lg : Bool) (z : Int) : Prop := (a_rng lg).1 ≤ z ∧ z ≤ (a_rng lg).2
theorem g_in32 (x : Int32) : g_in false x.toInt := by
  have h1 := Int32.le_toInt x
  have h2 := Int32.toInt_lt x
  exact ⟨by show (-2147483648 : Int) ≤ _; omega, by show _ ≤ (2147483647 : Int); omega⟩
theorem g_in64 (x : Int64) : g_in true x.toInt := by
  have h1 := Int64.le_toInt x
  have h2 := Int64.toInt_lt x
  exact ⟨by show (-9223372036854775808 : Int) ≤ _; omega, by show _ ≤ (9223372036854775807 : Int); omega⟩
theorem g_o32 {o : Option Nat} (x : Int32) : o = none ∨ g_in false x.toInt := Or.inr (g_in32 x)
theorem g_o64 {o : Option Nat} (x : Int64) : o = none ∨ g_in true x.toInt := Or.inr (g_in64 x)
theorem g_iv {v : List Int} {B : a_B} (hB : g_B v B) {x : a_N} {z : Int} (hx : g_lin v x.2.1 x.2.2 z) (hz : x.2.1 = none ∨ g_in x.1 z) : (a_iv B x).1 ≤ z ∧ z ≤ (a_iv B x).2 := by
  obtain ⟨lg, o, c⟩ := x
  cases o with
  | none =>
    have : z = c := hx
    subst this
    exact ⟨Int.le_refl _, Int.le_refl _⟩
  | some i =>
    obtain ⟨w, h1, h2⟩ := hx
    have hz : g_in lg z := hz.elim (fun q => by cases q) id
    simp only at h1 h2
    simp only [a_iv]
    cases hb : a_bd B i with
    | none => exact hz
    | some q =>
      obtain ⟨w2, h3, h4, h5⟩ := g_bd hB hb
      rw [h1] at h3
      cases h3
      exact ⟨a_mx_le (by omega) hz.1, a_mn_ge (by omega) hz.2⟩
theorem g_rf {v : List Int} {B : a_B} (hB : g_B v B) {x : a_N} {z lo hi : Int} (hx : g_lin v x.2.1 x.2.2 z) (h1 : lo ≤ z) (h2 : z ≤ hi) : g_B v (a_rf B x lo hi) := by
  obtain ⟨lg, o, c⟩ := x
  cases o with
  | none => exact hB
  | some i =>
    obtain ⟨w, e1, e2⟩ := hx
    simp only at e1 e2
    simp only [a_rf]
    cases hb : a_bd B i with
    | none =>
      intro q hq
      rcases List.mem_cons.mp hq with rfl | hq
      · exact ⟨w, e1, by show lo - c ≤ w; omega, by show w ≤ hi - c; omega⟩
      · exact hB q hq
    | some q0 =>
      obtain ⟨w2, h3, h4, h5⟩ := g_bd hB hb
      rw [e1] at h3
      cases h3
      intro q hq
      rcases List.mem_cons.mp hq with rfl | hq
      · exact ⟨w, e1, a_mx_le h4 (by omega), a_mn_ge h5 (by omega)⟩
      · exact hB q hq
/-- a comparison, of integers -/
def g_c (c : Jvm.ClassFile.Cond) (x y : Int) : Prop := match c with
  | .eq => x = y
  | .ne => ¬ x = y
  | .lt => x < y
  | .ge => y ≤ x
  | .gt => y < x
  | .le => x ≤ y
theorem g_c_swp {c : Jvm.ClassFile.Cond} {x y : Int} (h : g_c c x y) : g_c (a_swp c) y x := by
  cases c <;> simp only [g_c, a_swp] at * <;> omega
theorem g_c_opp {c : Jvm.ClassFile.Cond} {x y : Int} (h : ¬ g_c c x y) : g_c (a_opp c) x y := by
  cases c <;> simp only [g_c, a_opp] at * <;> omega
theorem g_lim {c : Jvm.ClassFile.Cond} {a b : Int × Int} {x y : Int} (ha : a.1 ≤ x ∧ x ≤ a.2) (hb : b.1 ≤ y ∧ y ≤ b.2) (h : g_c c x y) : (a_lim c a b).1 ≤ x ∧ x ≤ (a_lim c a b).2 := by
  cases c <;> simp only [g_c, a_lim] at *
  · omega
  · split
    · simp only; omega
    · split
      · simp only; omega
      · exact ha
  · omega
  · omega
  · omega
  · omega
theorem g_asm {v : List Int} {B : a_B} (hB : g_B v B) {c : Jvm.ClassFile.Cond} {x y : a_N} {z w : Int} (hx : g_lin v x.2.1 x.2.2 z) (hy : g_lin v y.2.1 y.2.2 w) (hz : x.2.1 = none ∨ g_in x.1 z) (hw : y.2.1 = none ∨ g_in y.1 w) (h : g_c c z w) : ∃ B1, a_asm B c x y = some B1 ∧ g_B v B1 := by
  have ha := g_iv hB hx hz
  have hb := g_iv hB hy hw
  have hp := g_lim ha hb h
  have hq := g_lim hb ha (g_c_swp h)
  unfold a_asm
  rw [if_pos ⟨Int.le_trans (a_mx_le ha.1 hp.1) (a_mn_ge ha.2 hp.2), Int.le_trans (a_mx_le hb.1 hq.1) (a_mn_ge hb.2 hq.2)⟩]
  exact ⟨_, rfl, g_rf (g_rf hB hx hp.1 hp.2) hy hq.1 hq.2⟩
theorem g_c32 (c : Jvm.ClassFile.Cond) (x y : Int32) : q_c c x y = true ↔ g_c c x.toInt y.toInt := by
  cases c <;> simp only [q_c, g_c, decide_eq_true_eq, Int32.lt_iff_toInt_lt, Int32.le_iff_toInt_le, Int32.toInt_inj]
/-- a number that a step makes -/
def g_R (v : List Int) (r : Nat × a_B × a_N) (lg : Bool) (z : Int) : Prop := ∃ t : List Int, (v ++ t).length = r.1 ∧ g_B (v ++ t) r.2.1 ∧ r.2.2.1 = lg ∧ g_lin (v ++ t) r.2.2.2.1 r.2.2.2.2 z
theorem g_R0 {v : List Int} {k : Nat} {B : a_B} (hk : v.length = k) (hB : g_B v B) {x : a_N} {lg : Bool} {z : Int} (h1 : x.1 = lg) (h2 : g_lin v x.2.1 x.2.2 z) : g_R v (k, B, x) lg z := ⟨[], by simpa using hk, by simpa using hB, h1, by simpa using h2⟩
theorem g_new {v : List Int} {k : Nat} {B : a_B} (hk : v.length = k) (hB : g_B v B) {lg : Bool} {lo hi z : Int} (h1 : lo ≤ z) (h2 : z ≤ hi) : g_R v (a_new k B lg lo hi) lg z := by
  have hv : (v ++ [z])[k]? = some z := by
    subst hk
    simp
  refine ⟨[z], by simp [a_new, hk], ?_, rfl, z, hv, by simp [a_new]⟩
  intro q hq
  rcases List.mem_cons.mp hq with rfl | hq
  · exact ⟨z, hv, h1, h2⟩
  · exact g_B_ext hB q hq
theorem g_top {v : List Int} {k : Nat} {B : a_B} (hk : v.length = k) (hB : g_B v B) {lg : Bool} {z : Int} (h : g_in lg z) : g_R v (a_top k B lg) lg z := g_new hk hB h.1 h.2
theorem g_bin32 {v : List Int} {k : Nat} {B : a_B} (hk : v.length = k) (hB : g_B v B) {op : Int32 → Int32 → Int32} {iv : Int × Int → Int × Int → Int × Int} {x y : a_N} {z w : Int32} (hx1 : x.1 = false) (hy1 : y.1 = false) (hx : g_lin v x.2.1 x.2.2 z.toInt) (hy : g_lin v y.2.1 y.2.2 w.toInt)
    (hiv : ∀ a b : Int × Int, a.1 ≤ z.toInt ∧ z.toInt ≤ a.2 → b.1 ≤ w.toInt ∧ w.toInt ≤ b.2 → (iv a b).1 ≤ (op z w).toInt ∧ (op z w).toInt ≤ (iv a b).2) : g_R v (a_bin32 k B op iv x y) false (op z w).toInt := by
  have ha := g_iv hB hx (by rw [hx1]; exact g_o32 z)
  have hb := g_iv hB hy (by rw [hy1]; exact g_o32 w)
  unfold a_bin32
  simp only
  split
  · rename_i h
    refine g_R0 hk hB rfl ?_
    have e1 : Int32.ofInt (a_iv B x).1 = z := by
      rw [show (a_iv B x).1 = z.toInt by omega]
      exact Int32.ofInt_toInt z
    have e2 : Int32.ofInt (a_iv B y).1 = w := by
      rw [show (a_iv B y).1 = w.toInt by omega]
      exact Int32.ofInt_toInt w
    rw [e1, e2]
    rfl
  · exact g_new hk hB (hiv _ _ ha hb).1 (hiv _ _ ha hb).2
theorem g_bin64 {v : List Int} {k : Nat} {B : a_B} (hk : v.length = k) (hB : g_B v B) {op : Int64 → Int64 → Int64} {iv : Int × Int → Int × Int → Int × Int} {x y : a_N} {z w : Int64} (hx1 : x.1 = true) (hy1 : y.1 = true) (hx : g_lin v x.2.1 x.2.2 z.toInt) (hy : g_lin v y.2.1 y.2.2 w.toInt)
    (hiv : ∀ a b : Int × Int, a.1 ≤ z.toInt ∧ z.toInt ≤ a.2 → b.1 ≤ w.toInt ∧ w.toInt ≤ b.2 → (iv a b).1 ≤ (op z w).toInt ∧ (op z w).toInt ≤ (iv a b).2) : g_R v (a_bin64 k B op iv x y) true (op z w).toInt := by
  have ha := g_iv hB hx (by rw [hx1]; exact g_o64 z)
  have hb := g_iv hB hy (by rw [hy1]; exact g_o64 w)
  unfold a_bin64
  simp only
  split
  · rename_i h
    refine g_R0 hk hB rfl ?_
    have e1 : Int64.ofInt (a_iv B x).1 = z := by
      rw [show (a_iv B x).1 = z.toInt by omega]
      exact Int64.ofInt_toInt z
    have e2 : Int64.ofInt (a_iv B y).1 = w := by
      rw [show (a_iv B y).1 = w.toInt by omega]
      exact Int64.ofInt_toInt w
    rw [e1, e2]
    rfl
  · exact g_new hk hB (hiv _ _ ha hb).1 (hiv _ _ ha hb).2
theorem g_all32 (x : Int32) (a b : Int × Int) : (a_all32 a b).1 ≤ x.toInt ∧ x.toInt ≤ (a_all32 a b).2 := g_in32 x
theorem g_all64 (x : Int64) (a b : Int × Int) : (a_all64 a b).1 ≤ x.toInt ∧ x.toInt ≤ (a_all64 a b).2 := g_in64 x
/-- within bounds an operation of 32 bits is the integers' own -/
theorem g_add32 {x y : Int32} (h : g_in false (x.toInt + y.toInt)) : (x + y).toInt = x.toInt + y.toInt := by
  rw [Int32.toInt_add]
  have h1 : (-2147483648 : Int) ≤ x.toInt + y.toInt := h.1
  have h2 : x.toInt + y.toInt ≤ (2147483647 : Int) := h.2
  exact Int.bmod_eq_of_le (by omega) (by omega)
theorem g_sub32 {x y : Int32} (h : g_in false (x.toInt - y.toInt)) : (x - y).toInt = x.toInt - y.toInt := by
  rw [Int32.toInt_sub]
  have h1 : (-2147483648 : Int) ≤ x.toInt - y.toInt := h.1
  have h2 : x.toInt - y.toInt ≤ (2147483647 : Int) := h.2
  exact Int.bmod_eq_of_le (by omega) (by omega)
theorem g_mul32 {x y : Int32} (h : g_in false (x.toInt * y.toInt)) : (x * y).toInt = x.toInt * y.toInt := by
  rw [Int32.toInt_mul]
  have h1 : (-2147483648 : Int) ≤ x.toInt * y.toInt := h.1
  have h2 : x.toInt * y.toInt ≤ (2147483647 : Int) := h.2
  exact Int.bmod_eq_of_le (by omega) (by omega)
theorem g_add64 {x y : Int64} (h : g_in true (x.toInt + y.toInt)) : (x + y).toInt = x.toInt + y.toInt := by
  rw [Int64.toInt_add]
  have h1 : (-9223372036854775808 : Int) ≤ x.toInt + y.toInt := h.1
  have h2 : x.toInt + y.toInt ≤ (9223372036854775807 : Int) := h.2
  exact Int.bmod_eq_of_le (by omega) (by omega)
theorem g_sub64 {x y : Int64} (h : g_in true (x.toInt - y.toInt)) : (x - y).toInt = x.toInt - y.toInt := by
  rw [Int64.toInt_sub]
  have h1 : (-9223372036854775808 : Int) ≤ x.toInt - y.toInt := h.1
  have h2 : x.toInt - y.toInt ≤ (9223372036854775807 : Int) := h.2
  exact Int.bmod_eq_of_le (by omega) (by omega)
end
section
theorem g_ca {α β : Type} {R : α → β → Prop} {a : α} {as : List α} {st : List β} (h : g_2 R (a :: as) st) : ∃ y ys, st = y :: ys ∧ R a y ∧ g_2 R as ys := by
  match st, h with
  | y :: ys, h => exact ⟨y, ys, rfl, h.1, h.2⟩
theorem g_na {α β : Type} {R : α → β → Prop} {st : List β} (h : g_2 R ([] : List α) st) : st = [] := by
  match st, h with
  | [], _ => rfl
abbrev g_s (b : Nat) (v : List Int) (sa : List a_V) (st : List Value) : Prop := g_2 (g_v b v) sa st
abbrev g_L (b : Nat) (v : List Int) (la : a_L) (l : q_L) : Prop := g_2 (fun (p : Nat × a_V) (q : Nat × Value) => p.1 = q.1 ∧ g_v b v p.2 q.2) la l
theorem g_s_ext {b : Nat} {v t : List Int} {sa : List a_V} {st : List Value} (h : g_s b v sa st) : g_s b (v ++ t) sa st := g_2_mono (fun _ _ => g_v_ext) h
theorem g_L_ext {b : Nat} {v t : List Int} {la : a_L} {l : q_L} (h : g_L b v la l) : g_L b (v ++ t) la l := g_2_mono (fun _ _ h => ⟨h.1, g_v_ext h.2⟩) h
theorem g_cat {b : Nat} {v : List Int} {x : a_V} {y : Value} (h : g_v b v x y) : a_cat x = y.category := by
  match x, h with
  | .inl (false, o, c), h =>
    obtain ⟨z, rfl, -⟩ := h
    rfl
  | .inl (true, o, c), h =>
    obtain ⟨z, rfl, -⟩ := h
    rfl
  | .inr (.inl (some k)), h =>
    have h : y = .ref k := h
    subst h
    rfl
  | .inr (.inl none), h =>
    have h : y = .null := h
    subst h
    rfl
  | .inr (.inr _), h =>
    have h : y = .retAddr b := h
    subst h
    rfl
theorem g_get {b : Nat} {v : List Int} : ∀ {la : a_L} {l : q_L}, g_L b v la l → ∀ {k : Nat} {x : a_V}, a_get la k = some x → ∃ y, q_get l k = some y ∧ g_v b v x y
  | [], [], _, k, x, h => by simp [a_get] at h
  | p :: la, q :: l, hh, k, x, h => by
    unfold a_get at h
    split at h
    · rename_i hb
      have hb := Nat.eq_of_beq_eq_true hb
      cases h
      refine ⟨q.2, ?_, hh.1.2⟩
      unfold q_get
      rw [if_pos (by rw [← hh.1.1]; exact hb)]
    · rename_i hb
      obtain ⟨y, h1, h2⟩ := g_get hh.2 h
      refine ⟨y, ?_, h2⟩
      unfold q_get
      rw [if_neg]
      · exact h1
      · intro hq
        rw [← hh.1.1] at hq
        rw [hq, Nat.beq_refl] at hb
        cases hb
  | [], _ :: _, hh, _, _, _ => hh.elim
  | _ :: _, [], hh, _, _, _ => hh.elim
theorem g_flt {b : Nat} {v : List Int} (F : Nat → Nat → Bool) : ∀ {la : a_L} {l : q_L}, g_L b v la l → g_L b v (la.filter (fun q => F q.1 (a_cat q.2))) (l.filter (fun q => F q.1 q.2.category))
  | [], [], _ => trivial
  | p :: la, q :: l, hh => by
    have ih := g_flt F hh.2
    have e1 : F p.1 (a_cat p.2) = F q.1 q.2.category := by rw [hh.1.1, g_cat hh.1.2]
    simp only [List.filter_cons, e1]
    split
    · exact ⟨hh.1, ih⟩
    · exact ih
  | [], _ :: _, hh => hh.elim
  | _ :: _, [], hh => hh.elim
theorem g_s1 {b : Nat} {v : List Int} {la : a_L} {l : q_L} (h : g_L b v la l) {i : Nat} {x : a_V} {y : Value} (hx : g_v b v x y) : g_L b v (a_s1 la i x) (q_s1 l i y) := ⟨⟨rfl, hx⟩, g_flt (fun a c => !(a == i) && !(a + 1 == i && c == 2)) h⟩
theorem g_s2 {b : Nat} {v : List Int} {la : a_L} {l : q_L} (h : g_L b v la l) {i : Nat} {x : a_V} {y : Value} (hx : g_v b v x y) : g_L b v (a_s2 la i x) (q_s2 l i y) := ⟨⟨rfl, hx⟩, g_flt (fun a c => !(a == i) && (!(a == i + 1) && !(a + 1 == i && c == 2))) h⟩
def g_PR (b : Nat) (v : List Int) (ps : List a_P) (res : Option (Nat × q_L × List Value)) : Prop := ∃ p ∈ ps, ∃ (t : List Int) (l1 : q_L) (st1 : List Value), res = some (p.2.2.1, l1, st1) ∧ (v ++ t).length = p.1 ∧ g_B (v ++ t) p.2.1 ∧ g_L b (v ++ t) p.2.2.2.1 l1 ∧ g_s b (v ++ t) p.2.2.2.2 st1
theorem g_P0 {b : Nat} {v : List Int} {k : Nat} {B : a_B} {pc : Nat} {la : a_L} {sa : List a_V} {ps : List a_P} {l : q_L} {st : List Value} {res : Option (Nat × q_L × List Value)} (hm : (k, B, pc, la, sa) ∈ ps) (hr : res = some (pc, l, st)) (hk : v.length = k) (hB : g_B v B) (hl : g_L b v la l) (hs : g_s b v sa st) : g_PR b v ps res :=
  ⟨_, hm, [], l, st, hr, by simpa using hk, by simpa using hB, by simpa using hl, by simpa using hs⟩
theorem g_P1 {b : Nat} {v : List Int} {z : Nat × a_B × a_N} {lg : Bool} {w : Int} (hR : g_R v z lg w) {y : Value} (hy : match lg with | false => ∃ c : Int32, y = .int c ∧ c.toInt = w | true => ∃ c : Int64, y = .long c ∧ c.toInt = w) {pc : Nat} {la : a_L} {sa : List a_V} {l : q_L} {st : List Value} {res : Option (Nat × q_L × List Value)} (hr : res = some (pc, l, y :: st)) (hl : g_L b v la l) (hs : g_s b v sa st) : g_PR b v [(z.1, z.2.1, pc, la, .inl z.2.2 :: sa)] res := by
  obtain ⟨t, h1, h2, h3, h4⟩ := hR
  refine ⟨_, List.mem_singleton.mpr rfl, t, l, _, hr, h1, h2, g_L_ext hl, ?_, g_s_ext hs⟩
  obtain ⟨k1, B1, lg1, o, c⟩ := z
  simp only at h3 h4
  subst h3
  cases lg1 with
  | false =>
    obtain ⟨c1, rfl, rfl⟩ := hy
    exact ⟨c1, rfl, h4⟩
  | true =>
    obtain ⟨c1, rfl, rfl⟩ := hy
    exact ⟨c1, rfl, h4⟩
theorem g_sum32 {x y : Int32} {a b : Int × Int} (hx : a.1 ≤ x.toInt ∧ x.toInt ≤ a.2) (hy : b.1 ≤ y.toInt ∧ y.toInt ≤ b.2) : (a_sum false a b).1 ≤ (x + y).toInt ∧ (x + y).toInt ≤ (a_sum false a b).2 := by
  unfold a_sum
  split
  · rename_i h
    rw [g_add32 ⟨Int.le_trans h.1 (by omega), Int.le_trans (by omega) h.2⟩]
    simp only
    omega
  · exact g_in32 _
theorem g_dif32 {x y : Int32} {a b : Int × Int} (hx : a.1 ≤ x.toInt ∧ x.toInt ≤ a.2) (hy : b.1 ≤ y.toInt ∧ y.toInt ≤ b.2) : (a_dif false a b).1 ≤ (x - y).toInt ∧ (x - y).toInt ≤ (a_dif false a b).2 := by
  unfold a_dif
  split
  · rename_i h
    rw [g_sub32 ⟨Int.le_trans h.1 (by omega), Int.le_trans (by omega) h.2⟩]
    simp only
    omega
  · exact g_in32 _
theorem g_sum64 {x y : Int64} {a b : Int × Int} (hx : a.1 ≤ x.toInt ∧ x.toInt ≤ a.2) (hy : b.1 ≤ y.toInt ∧ y.toInt ≤ b.2) : (a_sum true a b).1 ≤ (x + y).toInt ∧ (x + y).toInt ≤ (a_sum true a b).2 := by
  unfold a_sum
  split
  · rename_i h
    rw [g_add64 ⟨Int.le_trans h.1 (by omega), Int.le_trans (by omega) h.2⟩]
    simp only
    omega
  · exact g_in64 _
theorem g_dif64 {x y : Int64} {a b : Int × Int} (hx : a.1 ≤ x.toInt ∧ x.toInt ≤ a.2) (hy : b.1 ≤ y.toInt ∧ y.toInt ≤ b.2) : (a_dif true a b).1 ≤ (x - y).toInt ∧ (x - y).toInt ≤ (a_dif true a b).2 := by
  unfold a_dif
  split
  · rename_i h
    rw [g_sub64 ⟨Int.le_trans h.1 (by omega), Int.le_trans (by omega) h.2⟩]
    simp only
    omega
  · exact g_in64 _
theorem g_mulb {x y : Int32} {a b : Int × Int} (hx : a.1 ≤ x.toInt ∧ x.toInt ≤ a.2) (hy : b.1 ≤ y.toInt ∧ y.toInt ≤ b.2) : (a_mul a b).1 ≤ (x * y).toInt ∧ (x * y).toInt ≤ (a_mul a b).2 := by
  unfold a_mul
  split
  · rename_i h
    have h1 : 0 ≤ x.toInt * y.toInt := Int.mul_nonneg (by omega) (by omega)
    have h2 : x.toInt * y.toInt ≤ a.2 * b.2 := Int.mul_le_mul hx.2 hy.2 (by omega) (by omega)
    have h3 : a.1 * b.1 ≤ x.toInt * y.toInt := Int.mul_le_mul hx.1 hy.1 (by omega) (by omega)
    rw [g_mul32 ⟨by show (-2147483648 : Int) ≤ _; omega, by show _ ≤ (2147483647 : Int); omega⟩]
    exact ⟨h3, h2⟩
  · exact g_in32 _
theorem g_and_r {x y : Int32} (h : 0 ≤ y.toInt) : 0 ≤ (x &&& y).toInt ∧ (x &&& y).toInt ≤ y.toInt := by
  have e : y.toInt = (y.toBitVec.toNat : Int) ∧ y.toBitVec.toNat < 2 ^ 31 := by
    have h1 : y.toInt = y.toBitVec.toInt := rfl
    rw [h1, BitVec.toInt_eq_toNat_cond] at h ⊢
    have := y.toBitVec.isLt
    split at h <;> rename_i hc
    · rw [if_pos hc]
      exact ⟨rfl, by omega⟩
    · omega
  have h2 : (x &&& y).toBitVec.toNat = x.toBitVec.toNat &&& y.toBitVec.toNat := by simp
  have h3 : (x &&& y).toBitVec.toNat ≤ y.toBitVec.toNat := by rw [h2]; exact Nat.and_le_right
  have h4 : (x &&& y).toInt = ((x &&& y).toBitVec.toNat : Int) := by
    show (x &&& y).toBitVec.toInt = _
    rw [BitVec.toInt_eq_toNat_cond, if_pos (by omega)]
  rw [h4, e.1]
  omega
theorem g_and_l {x y : Int32} (h : 0 ≤ x.toInt) : 0 ≤ (x &&& y).toInt ∧ (x &&& y).toInt ≤ x.toInt := by
  rw [Int32.and_comm]
  exact g_and_r h
theorem g_mskb {x y : Int32} {a b : Int × Int} (hx : a.1 ≤ x.toInt ∧ x.toInt ≤ a.2) (hy : b.1 ≤ y.toInt ∧ y.toInt ≤ b.2) : (a_msk a b).1 ≤ (x &&& y).toInt ∧ (x &&& y).toInt ≤ (a_msk a b).2 := by
  unfold a_msk
  split
  · have := g_and_r (x := x) (y := y) (by omega)
    simp only
    omega
  · split
    · have := g_and_l (x := x) (y := y) (by omega)
      simp only
      omega
    · exact g_in32 _
theorem g_shf {v : List Int} {B : a_B} (hB : g_B v B) {x z : a_N} {w d : Int} (hx : g_lin v x.2.1 x.2.2 w) (hw : x.2.1 = none ∨ g_in x.1 w) {lg : Bool} (h : a_shf B lg x d = some z) : z.1 = lg ∧ g_lin v z.2.1 z.2.2 (w + d) ∧ g_in lg (w + d) := by
  unfold a_shf at h
  split at h
  · rename_i hc
    cases h
    have hi := g_iv hB hx hw
    refine ⟨rfl, ?_, Int.le_trans hc.1 (by omega), Int.le_trans (by omega) hc.2⟩
    obtain ⟨lx, o, c⟩ := x
    cases o with
    | none =>
      have : w = c := hx
      show w + d = c + d
      omega
    | some i =>
      obtain ⟨u, h1, h2⟩ := hx
      simp only at h1 h2
      exact ⟨u, h1, by show w + d = u + (c + d); omega⟩
  · cases h
theorem g_add {v : List Int} {k : Nat} {B : a_B} (hk : v.length = k) (hB : g_B v B) {x y : a_N} {z w : Int32} (hx1 : x.1 = false) (hy1 : y.1 = false) (hx : g_lin v x.2.1 x.2.2 z.toInt) (hy : g_lin v y.2.1 y.2.2 w.toInt) : g_R v (a_add k B x y) false (z + w).toInt := by
  unfold a_add
  split
  · rename_i zz h1 h2
    rw [h1] at hy
    have hy : w.toInt = y.2.2 := hy
    rw [← hy] at h2
    obtain ⟨e1, e2, e3⟩ := g_shf hB hx (by rw [hx1]; exact g_o32 z) h2
    rw [g_add32 e3]
    exact g_R0 hk hB e1 e2
  · exact g_bin32 hk hB hx1 hy1 hx hy (fun a b => g_sum32)
theorem g_sub {v : List Int} {k : Nat} {B : a_B} (hk : v.length = k) (hB : g_B v B) {x y : a_N} {z w : Int32} (hx1 : x.1 = false) (hy1 : y.1 = false) (hx : g_lin v x.2.1 x.2.2 z.toInt) (hy : g_lin v y.2.1 y.2.2 w.toInt) : g_R v (a_sub k B x y) false (z - w).toInt := by
  unfold a_sub
  split
  · rename_i zz h1 h2
    rw [h1] at hy
    have hy : w.toInt = y.2.2 := hy
    rw [← hy] at h2
    obtain ⟨e1, e2, e3⟩ := g_shf hB hx (by rw [hx1]; exact g_o32 z) h2
    rw [← Int.sub_eq_add_neg] at e2 e3
    rw [g_sub32 e3]
    exact g_R0 hk hB e1 e2
  · exact g_bin32 hk hB hx1 hy1 hx hy (fun a b => g_dif32)
theorem g_nz {v : List Int} {B : a_B} (hB : g_B v B) {y : a_N} {w : Int32} (hy1 : y.1 = false) (hy : g_lin v y.2.1 y.2.2 w.toInt) (h : 0 < (a_iv B y).1 ∨ (a_iv B y).2 < 0) : ¬ w = 0 := by
  intro h0
  subst h0
  have := g_iv hB hy (by rw [hy1]; exact g_o32 0)
  rw [Int32.toInt_zero] at this
  omega
theorem g_to {b : Nat} {v : List Int} {k : Nat} {o : Option a_B} {B : a_B} {pc : Nat} {off : Int} {la : a_L} {sa : List a_V} {ps : List a_P} {l : q_L} {st : List Value} (ho : o = some B) (h : a_to k o pc off la sa = some ps) (hk : v.length = k) (hB : g_B v B) (hl : g_L b v la l) (hs : g_s b v sa st) : g_PR b v ps (q_to pc off l st) := by
  subst ho
  unfold a_to at h
  simp only at h
  unfold q_to
  split at h
  · rename_i hc
    cases h
    exact g_P0 (List.mem_singleton.mpr rfl) (by rw [if_pos hc]) hk hB hl hs
  · cases h
theorem g_cat2 {x y : Option (List a_P)} {ps : List a_P} (h : a_cats2 x y = some ps) : ∃ a b, x = some a ∧ y = some b ∧ ps = a ++ b := by
  unfold a_cats2 at h
  split at h
  · cases h
    exact ⟨_, _, rfl, rfl, rfl⟩
  · cases h
theorem g_PRl {b : Nat} {v : List Int} {ps qs : List a_P} {res : Option (Nat × q_L × List Value)} (h : g_PR b v ps res) : g_PR b v (ps ++ qs) res := by
  obtain ⟨p, hp, h⟩ := h
  exact ⟨p, List.mem_append_left _ hp, h⟩
theorem g_PRr {b : Nat} {v : List Int} {ps qs : List a_P} {res : Option (Nat × q_L × List Value)} (h : g_PR b v qs res) : g_PR b v (ps ++ qs) res := by
  obtain ⟨p, hp, h⟩ := h
  exact ⟨p, List.mem_append_right _ hp, h⟩
theorem g_arm {b : Nat} {v : List Int} {o : Option a_B} {B : a_B} {k pc : Nat} {la : a_L} {sa : List a_V} {l : q_L} {st : List Value} {res : Option (Nat × q_L × List Value)} (ho : o = some B) (hr : res = some (pc, l, st)) (hk : v.length = k) (hB : g_B v B) (hl : g_L b v la l) (hs : g_s b v sa st) : g_PR b v (a_arm o k pc la sa) res := by
  subst ho
  exact g_P0 (List.mem_singleton.mpr rfl) hr hk hB hl hs
theorem g_pth {b : Nat} {v : List Int} {k : Nat} {B : a_B} {pc : Nat} {c : Jvm.ClassFile.Cond} {x y : a_N} {z w : Int32} {la : a_L} {sa : List a_V} {l : q_L} {st : List Value} {res : Option (Nat × q_L × List Value)} (hr : res = some (pc, l, st)) (hk : v.length = k) (hB : g_B v B) (hx1 : x.1 = false) (hy1 : y.1 = false) (hx : g_lin v x.2.1 x.2.2 z.toInt) (hy : g_lin v y.2.1 y.2.2 w.toInt) (hc : g_c c z.toInt w.toInt) (hl : g_L b v la l) (hs : g_s b v sa st) : g_PR b v (a_pth k B c x y pc la sa) res := by
  have key : ∀ c : Jvm.ClassFile.Cond, g_c c z.toInt w.toInt → g_PR b v (a_arm (a_asm B c x y) k pc la sa) res := fun c hc => by
    obtain ⟨B1, e1, g1⟩ := g_asm hB hx hy (by rw [hx1]; exact g_o32 z) (by rw [hy1]; exact g_o32 w) hc
    exact g_arm e1 hr hk g1 hl hs
  cases c with
  | ne =>
    have hc : ¬ z.toInt = w.toInt := hc
    rcases Int.lt_or_gt_of_ne hc with h | h
    · exact g_PRl (key .lt h)
    · exact g_PRr (key .gt h)
  | _ => exact key _ hc
theorem g_br {b : Nat} {v : List Int} {k : Nat} {B : a_B} {pc len : Nat} {off : Int} {c : Jvm.ClassFile.Cond} {x y : a_N} {z w : Int32} {la : a_L} {sa : List a_V} {ps : List a_P} {l : q_L} {st : List Value} (h : a_br k B pc len off c x y la sa = some ps) (hk : v.length = k) (hB : g_B v B) (hx1 : x.1 = false) (hy1 : y.1 = false) (hx : g_lin v x.2.1 x.2.2 z.toInt) (hy : g_lin v y.2.1 y.2.2 w.toInt) (hl : g_L b v la l) (hs : g_s b v sa st) : g_PR b v ps (q_br pc len off (q_c c z w) l st) := by
  unfold a_br at h
  split at h
  rotate_left
  · cases h
  rename_i hpc
  cases h
  unfold q_br
  rw [if_pos hpc]
  cases hq : q_c c z w with
  | true => exact g_PRl (g_pth rfl hk hB hx1 hy1 hx hy ((g_c32 c z w).mp hq) hl hs)
  | false => exact g_PRr (g_pth rfl hk hB hx1 hy1 hx hy (g_c_opp (fun hc => by rw [(g_c32 c z w).mpr hc] at hq; cases hq)) hl hs)
theorem g_shrb {x y : Int32} {a b : Int × Int} (hx : a.1 ≤ x.toInt ∧ x.toInt ≤ a.2) : (a_shr a b).1 ≤ (x >>> (y &&& 31)).toInt ∧ (x >>> (y &&& 31)).toInt ≤ (a_shr a b).2 := by
  rw [pk_shr x (y &&& 31) _ rfl]
  generalize ((y &&& 31).toBitVec.smod 32).toNat = k
  rw [Int.shiftRight_eq_div_pow]
  have hp : (0 : Int) < ((2 ^ k : Nat) : Int) := by exact_mod_cast Nat.two_pow_pos k
  generalize ((2 ^ k : Nat) : Int) = d at hp
  unfold a_shr
  by_cases h0 : 0 ≤ x.toInt
  · have h1 : 0 ≤ x.toInt / d := Int.ediv_nonneg h0 (Int.le_of_lt hp)
    have h2 : x.toInt / d ≤ x.toInt := Int.ediv_le_self _ h0
    split
    · exact ⟨h1, Int.le_trans h2 hx.2⟩
    · exact ⟨by simp only; omega, Int.le_trans (Int.le_trans h2 hx.2) (a_mx_l _ _)⟩
  · have h1 : x.toInt / d ≤ -1 := by
      have := Int.ediv_neg_of_neg_of_pos (a := x.toInt) (b := d) (by omega) hp
      omega
    have h2 : x.toInt ≤ x.toInt / d := by
      have e := Int.mul_ediv_add_emod x.toInt d
      have e2 := Int.emod_nonneg x.toInt (Int.ne_of_gt hp)
      have e4 : d * (x.toInt / d) ≤ 1 * (x.toInt / d) := Int.mul_le_mul_of_nonpos_right (by omega) (by omega)
      have e3 := Int.emod_lt_of_pos x.toInt hp
      by_cases q : x.toInt / d < x.toInt
      · exfalso
        have e5 : d * (x.toInt / d) ≤ d * (x.toInt - 1) := Int.mul_le_mul_of_nonneg_left (by omega) (by omega)
        have e6 : d * (x.toInt - 1) = d * x.toInt - d := by rw [Int.mul_sub, Int.mul_one]
        have e7 : d * x.toInt ≤ 1 * x.toInt := Int.mul_le_mul_of_nonpos_right (by omega) (by omega)
        omega
      · omega
    split
    · omega
    · exact ⟨Int.le_trans hx.1 h2, Int.le_trans h1 (a_mx_r _ _)⟩
theorem g_tab {b : Nat} {v : List Int} {k : Nat} {B : a_B} {pc : Nat} {x : a_N} {z : Int32} {la : a_L} {sa : List a_V} {l : q_L} {st : List Value} (hk : v.length = k) (hB : g_B v B) (hx1 : x.1 = false) (hx : g_lin v x.2.1 x.2.2 z.toInt) (hl : g_L b v la l) (hs : g_s b v sa st) :
    ∀ (offs : List Int) (j : Int) (ps : List a_P), a_tab k B pc x la sa j offs = some ps → ∀ (n : Nat) (off : Int), offs[n]? = some off → z.toInt = j + n → g_PR b v ps (q_to pc off l st)
  | [], j, ps, h, n, off, hn, hz => by simp at hn
  | o :: offs, j, ps, h, 0, off, hn, hz => by
    simp at hn
    subst hn
    unfold a_tab at h
    obtain ⟨p1, p2, e1, e2, rfl⟩ := g_cat2 h
    obtain ⟨B1, h1, h2⟩ := g_asm (c := .eq) (y := (false, none, j)) hB hx (w := j) rfl (by rw [hx1]; exact g_o32 z) (Or.inl rfl) (by show z.toInt = j; omega)
    exact g_PRl (g_to h1 e1 hk h2 hl hs)
  | o :: offs, j, ps, h, n + 1, off, hn, hz => by
    simp at hn
    unfold a_tab at h
    obtain ⟨p1, p2, e1, e2, rfl⟩ := g_cat2 h
    exact g_PRr (g_tab hk hB hx1 hx hl hs offs (j + 1) p2 e2 n off hn (by omega))
end
section
theorem g_lkp {b : Nat} {v : List Int} {k : Nat} {pc : Nat} {x : a_N} {z : Int32} {la : a_L} {sa : List a_V} {l : q_L} {st : List Value} {d : Int} (hk : v.length = k) (hx1 : x.1 = false) (hx : g_lin v x.2.1 x.2.2 z.toInt) (hl : g_L b v la l) (hs : g_s b v sa st) :
    ∀ (ps : List (Int × Int)) (o : Option a_B) (B : a_B) (rs : List a_P), o = some B → g_B v B → a_lkp k pc x la sa d o ps = some rs → g_PR b v rs (q_to pc (Op.lookupswitch.offset ps d z.toInt) l st)
  | [], o, B, rs, ho, hB, h => by
    subst ho
    unfold a_lkp at h
    exact g_to rfl h hk hB hl hs
  | p :: ps, o, B, rs, ho, hB, h => by
    subst ho
    unfold a_lkp at h
    obtain ⟨p1, p2, e1, e2, rfl⟩ := g_cat2 h
    obtain ⟨a, off⟩ := p
    rw [Op.lookupswitch.offset_cons]
    by_cases hz : z.toInt = a
    · rw [if_pos (by first | exact hz | exact hz.symm | simpa using hz | simpa using hz.symm)]
      obtain ⟨B1, h1, h2⟩ := g_asm (c := .eq) (y := (false, none, a)) hB hx (w := a) rfl (by rw [hx1]; exact g_o32 z) (Or.inl rfl) hz
      exact g_PRl (g_to h1 e1 hk h2 hl hs)
    · rw [if_neg (by first | exact hz | exact fun q => hz q.symm | simpa using hz | simpa using fun q => hz q.symm)]
      obtain ⟨B1, h1, h2⟩ := g_asm (c := .ne) (y := (false, none, a)) hB hx (w := a) rfl (by rw [hx1]; exact g_o32 z) (Or.inl rfl) hz
      exact g_PRr (g_lkp hk hx1 hx hl hs ps _ B1 p2 h1 h2 e2)
theorem g_s8 {x : Int32} (h1 : -128 ≤ x.toInt) (h2 : x.toInt ≤ 127) : x.toInt8.toInt32 = x := by
  rw [← Int32.toInt_inj, Int8.toInt_toInt32, Int32.toInt_toInt8]
  exact Int.bmod_eq_of_le (by omega) (by omega)
theorem g_s16 {x : Int32} (h1 : -32768 ≤ x.toInt) (h2 : x.toInt ≤ 32767) : x.toInt16.toInt32 = x := by
  rw [← Int32.toInt_inj, Int16.toInt_toInt32, Int32.toInt_toInt16]
  exact Int.bmod_eq_of_le (by omega) (by omega)
theorem g_b8 (x : Int32) : -128 ≤ x.toInt8.toInt32.toInt ∧ x.toInt8.toInt32.toInt ≤ 127 := by
  rw [Int8.toInt_toInt32]
  have h1 := Int8.le_toInt x.toInt8
  have h2 := Int8.toInt_lt x.toInt8
  omega
theorem g_b16 (x : Int32) : -32768 ≤ x.toInt16.toInt32.toInt ∧ x.toInt16.toInt32.toInt ≤ 32767 := by
  rw [Int16.toInt_toInt32]
  have h1 := Int16.le_toInt x.toInt16
  have h2 := Int16.toInt_lt x.toInt16
  omega
theorem g_l2i {x : Int64} (h1 : -2147483648 ≤ x.toInt) (h2 : x.toInt ≤ 2147483647) : x.toInt32.toInt = x.toInt := by
  rw [Int64.toInt_toInt32]
  exact Int.bmod_eq_of_le (by omega) (by omega)
theorem g_pure {b : Nat} {v : List Int} {k : Nat} {B : a_B} {nL pc len : Nat} {i : Instr} {la : a_L} {sa : List a_V} {ps : List a_P} {l : q_L} {st : List Value} (h : a_pure k B nL pc len i la sa = some ps) (hk : v.length = k) (hB : g_B v B) (hl : g_L b v la l) (hs : g_s b v sa st) : g_PR b v ps (q_pure nL pc len i l st) := by
  unfold a_pure at h
  split at h
  · -- iconst
    cases h
    exact g_P0 (List.mem_singleton.mpr rfl) rfl hk hB hl ⟨⟨_, rfl, rfl⟩, hs⟩
  · -- a long
    cases h
    exact g_P0 (List.mem_singleton.mpr rfl) rfl hk hB hl ⟨⟨_, rfl, rfl⟩, hs⟩
  · -- iload
    split at h
    rotate_left
    · cases h
    rename_i hg
    cases h
    obtain ⟨y, h1, h2⟩ := g_get hl hg
    obtain ⟨z, rfl, h3⟩ := h2
    exact g_P0 (st := .int z :: st) (List.mem_singleton.mpr rfl) (by simp only [q_pure, h1]) hk hB hl ⟨⟨z, rfl, h3⟩, hs⟩
  · -- lload
    split at h
    rotate_left
    · cases h
    rename_i hg
    cases h
    obtain ⟨y, h1, h2⟩ := g_get hl hg
    obtain ⟨z, rfl, h3⟩ := h2
    exact g_P0 (st := .long z :: st) (List.mem_singleton.mpr rfl) (by simp only [q_pure, h1]) hk hB hl ⟨⟨z, rfl, h3⟩, hs⟩
  · -- aload
    split at h
    · rename_i hg
      cases h
      obtain ⟨y, h1, h2⟩ := g_get hl hg
      have h2 : y = _ := h2
      subst h2
      exact g_P0 (st := .ref _ :: st) (List.mem_singleton.mpr rfl) (by simp only [q_pure, h1]) hk hB hl ⟨rfl, hs⟩
    · rename_i hg
      cases h
      obtain ⟨y, h1, h2⟩ := g_get hl hg
      have h2 : y = _ := h2
      subst h2
      exact g_P0 (st := .retAddr b :: st) (List.mem_singleton.mpr rfl) (by simp only [q_pure, h1]) hk hB hl ⟨rfl, hs⟩
    · cases h
  · -- istore
    split at h
    rotate_left
    · cases h
    split at h
    rotate_left
    · cases h
    rename_i hn
    cases h
    obtain ⟨y, ys, rfl, hy, hr⟩ := g_ca hs
    have hy0 := hy
    obtain ⟨z, rfl, h3⟩ := hy
    exact g_P0 (l := q_s1 l _ (.int z)) (st := ys) (List.mem_singleton.mpr rfl) (by simp only [q_pure, if_pos hn]) hk hB (g_s1 hl hy0) hr
  · -- astore
    split at h
    rotate_left
    · cases h
    split at h
    rotate_left
    · cases h
    rename_i hn
    cases h
    obtain ⟨y, ys, rfl, hy, hr⟩ := g_ca hs
    have hy0 := hy
    have hy : y = _ := hy
    subst hy
    exact g_P0 (l := q_s1 l _ (.ref _)) (st := ys) (List.mem_singleton.mpr rfl) (by simp only [q_pure, if_pos hn]) hk hB (g_s1 hl hy0) hr
  · -- lstore
    split at h
    rotate_left
    · cases h
    split at h
    rotate_left
    · cases h
    rename_i hn
    cases h
    obtain ⟨y, ys, rfl, hy, hr⟩ := g_ca hs
    have hy0 := hy
    obtain ⟨z, rfl, h3⟩ := hy
    exact g_P0 (l := q_s2 l _ (.long z)) (st := ys) (List.mem_singleton.mpr rfl) (by simp only [q_pure, if_pos hn]) hk hB (g_s2 hl hy0) hr
  · -- iinc
    rename_i jj nn
    split at h
    rotate_left
    · cases h
    rename_i hg
    split at h
    rotate_left
    · cases h
    rename_i hn
    obtain ⟨y, h1, h2⟩ := g_get hl hg
    obtain ⟨z, rfl, h3⟩ := h2
    rename_i o c
    have hR := g_add hk hB (x := (false, _, _)) (y := (false, none, (Int32.ofInt nn).toInt)) rfl rfl h3 (w := Int32.ofInt nn) rfl
    split at h
    rename_i k1 B1 zz hz
    cases h
    rw [hz] at hR
    obtain ⟨t, g1, g2, g3, g4⟩ := hR
    refine ⟨_, List.mem_singleton.mpr rfl, t, q_s1 l jj (.int (z + Int32.ofInt nn)), st, by simp only [q_pure, h1, if_pos hn], g1, g2, g_s1 (g_L_ext hl) ?_, g_s_ext hs⟩
    obtain ⟨lg, oo, cc⟩ := zz
    simp only at g3 g4
    subst g3
    exact ⟨_, rfl, g4⟩
  · -- iadd
    split at h
    rotate_left
    · cases h
    obtain ⟨y, ys, rfl, hy, hs1⟩ := g_ca hs
    replace hs := hs1
    obtain ⟨x, xs, rfl, hx, hs1⟩ := g_ca hs
    replace hs := hs1
    obtain ⟨w, rfl, hy⟩ := hy
    obtain ⟨z, rfl, hx⟩ := hx
    cases h
    exact g_P1 (lg := false) (g_add hk hB rfl rfl hx hy) ⟨_, rfl, rfl⟩ rfl hl hs
  · -- isub
    split at h
    rotate_left
    · cases h
    obtain ⟨y, ys, rfl, hy, hs1⟩ := g_ca hs
    replace hs := hs1
    obtain ⟨x, xs, rfl, hx, hs1⟩ := g_ca hs
    replace hs := hs1
    obtain ⟨w, rfl, hy⟩ := hy
    obtain ⟨z, rfl, hx⟩ := hx
    cases h
    exact g_P1 (lg := false) (g_sub hk hB rfl rfl hx hy) ⟨_, rfl, rfl⟩ rfl hl hs
  · -- imul
    split at h
    rotate_left
    · cases h
    obtain ⟨y, ys, rfl, hy, hs1⟩ := g_ca hs
    replace hs := hs1
    obtain ⟨x, xs, rfl, hx, hs1⟩ := g_ca hs
    replace hs := hs1
    obtain ⟨w, rfl, hy⟩ := hy
    obtain ⟨z, rfl, hx⟩ := hx
    cases h
    exact g_P1 (lg := false) (g_bin32 hk hB rfl rfl hx hy (fun _ _ => g_mulb)) ⟨_, rfl, rfl⟩ rfl hl hs
  · -- iand
    split at h
    rotate_left
    · cases h
    obtain ⟨y, ys, rfl, hy, hs1⟩ := g_ca hs
    replace hs := hs1
    obtain ⟨x, xs, rfl, hx, hs1⟩ := g_ca hs
    replace hs := hs1
    obtain ⟨w, rfl, hy⟩ := hy
    obtain ⟨z, rfl, hx⟩ := hx
    cases h
    exact g_P1 (lg := false) (g_bin32 hk hB rfl rfl hx hy (fun _ _ => g_mskb)) ⟨_, rfl, rfl⟩ rfl hl hs
  · -- ior
    split at h
    rotate_left
    · cases h
    obtain ⟨y, ys, rfl, hy, hs1⟩ := g_ca hs
    replace hs := hs1
    obtain ⟨x, xs, rfl, hx, hs1⟩ := g_ca hs
    replace hs := hs1
    obtain ⟨w, rfl, hy⟩ := hy
    obtain ⟨z, rfl, hx⟩ := hx
    cases h
    exact g_P1 (lg := false) (g_bin32 hk hB rfl rfl hx hy (fun a b _ _ => g_all32 _ a b)) ⟨_, rfl, rfl⟩ rfl hl hs
  · -- ixor
    split at h
    rotate_left
    · cases h
    obtain ⟨y, ys, rfl, hy, hs1⟩ := g_ca hs
    replace hs := hs1
    obtain ⟨x, xs, rfl, hx, hs1⟩ := g_ca hs
    replace hs := hs1
    obtain ⟨w, rfl, hy⟩ := hy
    obtain ⟨z, rfl, hx⟩ := hx
    cases h
    exact g_P1 (lg := false) (g_bin32 hk hB rfl rfl hx hy (fun a b _ _ => g_all32 _ a b)) ⟨_, rfl, rfl⟩ rfl hl hs
  · -- ishl
    split at h
    rotate_left
    · cases h
    obtain ⟨y, ys, rfl, hy, hs1⟩ := g_ca hs
    replace hs := hs1
    obtain ⟨x, xs, rfl, hx, hs1⟩ := g_ca hs
    replace hs := hs1
    obtain ⟨w, rfl, hy⟩ := hy
    obtain ⟨z, rfl, hx⟩ := hx
    cases h
    exact g_P1 (lg := false) (g_bin32 hk hB rfl rfl hx hy (fun a b _ _ => g_all32 _ a b)) ⟨_, rfl, rfl⟩ rfl hl hs
  · -- ishr
    split at h
    rotate_left
    · cases h
    obtain ⟨y, ys, rfl, hy, hs1⟩ := g_ca hs
    replace hs := hs1
    obtain ⟨x, xs, rfl, hx, hs1⟩ := g_ca hs
    replace hs := hs1
    obtain ⟨w, rfl, hy⟩ := hy
    obtain ⟨z, rfl, hx⟩ := hx
    cases h
    exact g_P1 (lg := false) (g_bin32 hk hB rfl rfl hx hy (fun _ _ h1 _ => g_shrb h1)) ⟨_, rfl, rfl⟩ rfl hl hs
  · -- iushr
    split at h
    rotate_left
    · cases h
    obtain ⟨y, ys, rfl, hy, hs1⟩ := g_ca hs
    replace hs := hs1
    obtain ⟨x, xs, rfl, hx, hs1⟩ := g_ca hs
    replace hs := hs1
    obtain ⟨w, rfl, hy⟩ := hy
    obtain ⟨z, rfl, hx⟩ := hx
    cases h
    exact g_P1 (lg := false) (g_bin32 hk hB rfl rfl hx hy (fun a b _ _ => g_all32 _ a b)) ⟨_, rfl, rfl⟩ rfl hl hs
  · -- idiv
    split at h
    rotate_left
    · cases h
    split at h
    rotate_left
    · cases h
    rename_i hnz
    obtain ⟨y, ys, rfl, hy, hs1⟩ := g_ca hs
    replace hs := hs1
    obtain ⟨x, xs, rfl, hx, hs1⟩ := g_ca hs
    replace hs := hs1
    obtain ⟨w, rfl, hy⟩ := hy
    obtain ⟨z, rfl, hx⟩ := hx
    have hw := g_nz hB rfl hy hnz
    cases h
    exact g_P1 (lg := false) (g_bin32 hk hB rfl rfl hx hy (fun a b _ _ => g_all32 _ a b)) ⟨_, rfl, rfl⟩ (by simp only [q_pure, if_neg hw]) hl hs
  · -- irem
    split at h
    rotate_left
    · cases h
    split at h
    rotate_left
    · cases h
    rename_i hnz
    obtain ⟨y, ys, rfl, hy, hs1⟩ := g_ca hs
    replace hs := hs1
    obtain ⟨x, xs, rfl, hx, hs1⟩ := g_ca hs
    replace hs := hs1
    obtain ⟨w, rfl, hy⟩ := hy
    obtain ⟨z, rfl, hx⟩ := hx
    have hw := g_nz hB rfl hy hnz
    cases h
    exact g_P1 (lg := false) (g_bin32 hk hB rfl rfl hx hy (fun a b _ _ => g_all32 _ a b)) ⟨_, rfl, rfl⟩ (by simp only [q_pure, if_neg hw]) hl hs
  · -- ladd
    split at h
    rotate_left
    · cases h
    obtain ⟨y, ys, rfl, hy, hs1⟩ := g_ca hs
    replace hs := hs1
    obtain ⟨x, xs, rfl, hx, hs1⟩ := g_ca hs
    replace hs := hs1
    obtain ⟨w, rfl, hy⟩ := hy
    obtain ⟨z, rfl, hx⟩ := hx
    cases h
    exact g_P1 (lg := true) (g_bin64 hk hB rfl rfl hx hy (fun _ _ => g_sum64)) ⟨_, rfl, rfl⟩ rfl hl hs
  · -- lsub
    split at h
    rotate_left
    · cases h
    obtain ⟨y, ys, rfl, hy, hs1⟩ := g_ca hs
    replace hs := hs1
    obtain ⟨x, xs, rfl, hx, hs1⟩ := g_ca hs
    replace hs := hs1
    obtain ⟨w, rfl, hy⟩ := hy
    obtain ⟨z, rfl, hx⟩ := hx
    cases h
    exact g_P1 (lg := true) (g_bin64 hk hB rfl rfl hx hy (fun _ _ => g_dif64)) ⟨_, rfl, rfl⟩ rfl hl hs
  · -- lmul
    split at h
    rotate_left
    · cases h
    obtain ⟨y, ys, rfl, hy, hs1⟩ := g_ca hs
    replace hs := hs1
    obtain ⟨x, xs, rfl, hx, hs1⟩ := g_ca hs
    replace hs := hs1
    obtain ⟨w, rfl, hy⟩ := hy
    obtain ⟨z, rfl, hx⟩ := hx
    cases h
    exact g_P1 (lg := true) (g_bin64 hk hB rfl rfl hx hy (fun a b _ _ => g_all64 _ a b)) ⟨_, rfl, rfl⟩ rfl hl hs
  · -- land
    split at h
    rotate_left
    · cases h
    obtain ⟨y, ys, rfl, hy, hs1⟩ := g_ca hs
    replace hs := hs1
    obtain ⟨x, xs, rfl, hx, hs1⟩ := g_ca hs
    replace hs := hs1
    obtain ⟨w, rfl, hy⟩ := hy
    obtain ⟨z, rfl, hx⟩ := hx
    cases h
    exact g_P1 (lg := true) (g_top hk hB (g_in64 _)) ⟨_, rfl, rfl⟩ rfl hl hs
  · -- lor
    split at h
    rotate_left
    · cases h
    obtain ⟨y, ys, rfl, hy, hs1⟩ := g_ca hs
    replace hs := hs1
    obtain ⟨x, xs, rfl, hx, hs1⟩ := g_ca hs
    replace hs := hs1
    obtain ⟨w, rfl, hy⟩ := hy
    obtain ⟨z, rfl, hx⟩ := hx
    cases h
    exact g_P1 (lg := true) (g_top hk hB (g_in64 _)) ⟨_, rfl, rfl⟩ rfl hl hs
  · -- lshl
    split at h
    rotate_left
    · cases h
    obtain ⟨y, ys, rfl, hy, hs1⟩ := g_ca hs
    replace hs := hs1
    obtain ⟨x, xs, rfl, hx, hs1⟩ := g_ca hs
    replace hs := hs1
    obtain ⟨w, rfl, hy⟩ := hy
    obtain ⟨z, rfl, hx⟩ := hx
    cases h
    exact g_P1 (lg := true) (g_top hk hB (g_in64 _)) ⟨_, rfl, rfl⟩ rfl hl hs
  · -- lshr
    split at h
    rotate_left
    · cases h
    obtain ⟨y, ys, rfl, hy, hs1⟩ := g_ca hs
    replace hs := hs1
    obtain ⟨x, xs, rfl, hx, hs1⟩ := g_ca hs
    replace hs := hs1
    obtain ⟨w, rfl, hy⟩ := hy
    obtain ⟨z, rfl, hx⟩ := hx
    cases h
    exact g_P1 (lg := true) (g_top hk hB (g_in64 _)) ⟨_, rfl, rfl⟩ rfl hl hs
  · -- i2l
    split at h
    rotate_left
    · cases h
    obtain ⟨y, ys, rfl, hy, hs1⟩ := g_ca hs
    replace hs := hs1
    obtain ⟨w, rfl, hy⟩ := hy
    cases h
    have hi := g_iv hB hy (g_o32 w)
    refine g_P0 (List.mem_singleton.mpr rfl) rfl hk ?_ hl ⟨⟨w.toInt64, rfl, by rw [Int32.toInt_toInt64]; exact hy⟩, hs⟩
    split
    · exact g_rf hB hy hi.1 hi.2
    · exact hB
  · -- l2i
    split at h
    rotate_left
    · cases h
    obtain ⟨y, ys, rfl, hy, hs1⟩ := g_ca hs
    replace hs := hs1
    obtain ⟨w, rfl, hy⟩ := hy
    have hi := g_iv hB hy (g_o64 w)
    split at h
    · rename_i hc
      cases h
      exact g_P0 (List.mem_singleton.mpr rfl) rfl hk hB hl ⟨⟨w.toInt32, rfl, by rw [g_l2i (by omega) (by omega)]; exact hy⟩, hs⟩
    · cases h
      exact g_P1 (lg := false) (g_top hk hB (g_in32 w.toInt32)) ⟨_, rfl, rfl⟩ rfl hl hs
  · -- i2b
    split at h
    rotate_left
    · cases h
    obtain ⟨y, ys, rfl, hy, hs1⟩ := g_ca hs
    replace hs := hs1
    obtain ⟨w, rfl, hy⟩ := hy
    have hi := g_iv hB hy (g_o32 w)
    split at h
    · rename_i hc
      cases h
      exact g_P0 (List.mem_singleton.mpr rfl) rfl hk hB hl ⟨⟨w.toInt8.toInt32, rfl, by rw [g_s8 (by omega) (by omega)]; exact hy⟩, hs⟩
    · cases h
      exact g_P1 (lg := false) (g_new hk hB (g_b8 w).1 (g_b8 w).2) ⟨_, rfl, rfl⟩ rfl hl hs
  · -- i2s
    split at h
    rotate_left
    · cases h
    obtain ⟨y, ys, rfl, hy, hs1⟩ := g_ca hs
    replace hs := hs1
    obtain ⟨w, rfl, hy⟩ := hy
    have hi := g_iv hB hy (g_o32 w)
    split at h
    · rename_i hc
      cases h
      exact g_P0 (List.mem_singleton.mpr rfl) rfl hk hB hl ⟨⟨w.toInt16.toInt32, rfl, by rw [g_s16 (by omega) (by omega)]; exact hy⟩, hs⟩
    · cases h
      exact g_P1 (lg := false) (g_new hk hB (g_b16 w).1 (g_b16 w).2) ⟨_, rfl, rfl⟩ rfl hl hs
  · -- ineg
    split at h
    rotate_left
    · cases h
    obtain ⟨y, ys, rfl, hy, hs1⟩ := g_ca hs
    replace hs := hs1
    obtain ⟨w, rfl, hy⟩ := hy
    cases h
    exact g_P1 (lg := false) (g_bin32 hk hB (x := (false, none, 0)) (z := 0) rfl rfl (by show (0 : Int32).toInt = 0; rfl) hy (fun a b _ _ => g_all32 _ a b)) ⟨_, rfl, rfl⟩ rfl hl hs
  · -- lcmp
    split at h
    rotate_left
    · cases h
    obtain ⟨y, ys, rfl, hy, hs1⟩ := g_ca hs
    replace hs := hs1
    obtain ⟨x, xs, rfl, hx, hs1⟩ := g_ca hs
    replace hs := hs1
    obtain ⟨w, rfl, hy⟩ := hy
    obtain ⟨z, rfl, hx⟩ := hx
    cases h
    by_cases h1 : w < z
    · have e1 : lg_cmp z w = 1 := by simp [lg_cmp, h1]
      obtain ⟨B1, a1, a2⟩ := g_asm (c := .gt) hB hx hy (g_o64 z) (g_o64 w) (Int64.lt_iff_toInt_lt.mp h1)
      exact g_PRr (g_arm a1 rfl hk a2 hl ⟨⟨_, rfl, by rw [e1]; rfl⟩, hs⟩)
    · by_cases h2 : z = w
      · have e1 : lg_cmp z w = 0 := by simp [lg_cmp, h2]
        obtain ⟨B1, a1, a2⟩ := g_asm (c := .eq) hB hx hy (g_o64 z) (g_o64 w) (by show z.toInt = w.toInt; rw [h2])
        exact g_PRl (g_PRr (g_arm a1 rfl hk a2 hl ⟨⟨_, rfl, by rw [e1]; rfl⟩, hs⟩))
      · have e1 : lg_cmp z w = -1 := by simp [lg_cmp, h1, h2]
        obtain ⟨B1, a1, a2⟩ := g_asm (c := .lt) hB hx hy (g_o64 z) (g_o64 w) (by
          show z.toInt < w.toInt
          have n1 : ¬ w.toInt < z.toInt := fun q => h1 (Int64.lt_iff_toInt_lt.mpr q)
          have n2 : ¬ z.toInt = w.toInt := fun q => h2 (Int64.toInt_inj.mp q)
          omega)
        exact g_PRl (g_PRl (g_arm a1 rfl hk a2 hl ⟨⟨_, rfl, by rw [e1]; rfl⟩, hs⟩))
  · -- dup
    split at h
    rotate_left
    · cases h
    split at h
    rotate_left
    · cases h
    rename_i hc
    cases h
    obtain ⟨y, ys, rfl, hy, hs1⟩ := g_ca hs
    replace hs := hs1
    exact g_P0 (st := y :: y :: ys) (List.mem_singleton.mpr rfl) (by simp only [q_pure, if_pos ((g_cat hy).symm.trans hc)]) hk hB hl ⟨hy, hy, hs⟩
  · -- pop
    split at h
    rotate_left
    · cases h
    split at h
    rotate_left
    · cases h
    rename_i hc
    cases h
    obtain ⟨y, ys, rfl, hy, hs1⟩ := g_ca hs
    replace hs := hs1
    exact g_P0 (st := ys) (List.mem_singleton.mpr rfl) (by simp only [q_pure, if_pos ((g_cat hy).symm.trans hc)]) hk hB hl hs
  · -- dup2
    split at h
    rotate_left
    · cases h
    split at h
    rotate_left
    · cases h
    rename_i hc
    cases h
    obtain ⟨y, ys, rfl, hy, hs1⟩ := g_ca hs
    replace hs := hs1
    obtain ⟨x, xs, rfl, hx, hs1⟩ := g_ca hs
    replace hs := hs1
    have c1 := (g_cat hy).symm.trans hc.1
    have c2 := (g_cat hx).symm.trans hc.2
    exact g_P0 (st := y :: x :: y :: x :: xs) (List.mem_singleton.mpr rfl) (by simp only [q_pure]; rw [if_neg (by omega), if_pos ⟨c1, c2⟩]) hk hB hl ⟨hy, hx, hy, hx, hs⟩
  · -- pop2
    split at h
    rotate_left
    · cases h
    split at h
    rotate_left
    · cases h
    rename_i hc
    cases h
    obtain ⟨y, ys, rfl, hy, hs1⟩ := g_ca hs
    replace hs := hs1
    exact g_P0 (st := ys) (List.mem_singleton.mpr rfl) (by simp only [q_pure, if_pos ((g_cat hy).symm.trans hc)]) hk hB hl hs
  · -- ifCond
    split at h
    rotate_left
    · cases h
    obtain ⟨y, ys, rfl, hy, hs1⟩ := g_ca hs
    replace hs := hs1
    obtain ⟨w, rfl, hy⟩ := hy
    exact g_br h hk hB rfl rfl hy (w := 0) (by show (0 : Int32).toInt = 0; rfl) hl hs
  · -- if_icmp
    split at h
    rotate_left
    · cases h
    obtain ⟨y, ys, rfl, hy, hs1⟩ := g_ca hs
    replace hs := hs1
    obtain ⟨x, xs, rfl, hx, hs1⟩ := g_ca hs
    replace hs := hs1
    obtain ⟨w, rfl, hy⟩ := hy
    obtain ⟨z, rfl, hx⟩ := hx
    exact g_br h hk hB rfl rfl hx hy hl hs
  · -- goto
    exact g_to rfl h hk hB hl hs
  · -- tableswitch
    rename_i d lo hi offs
    split at h
    rotate_left
    · cases h
    split at h
    rotate_left
    · cases h
    rename_i hsz
    obtain ⟨y, ys, rfl, hy, hs1⟩ := g_ca hs
    replace hs := hs1
    obtain ⟨w, rfl, hy⟩ := hy
    obtain ⟨p1, p2, e1, e2, rfl⟩ := g_cat2 h
    obtain ⟨p3, p4, e3, e4, rfl⟩ := g_cat2 e2
    simp only [q_pure]
    by_cases h1 : w.toInt < lo
    · rw [if_pos (Or.inl h1)]
      obtain ⟨B1, a1, a2⟩ := g_asm (c := .lt) (y := (false, none, lo)) hB hy (w := lo) rfl (g_o32 w) (Or.inl rfl) h1
      exact g_PRr (g_PRl (g_to a1 e3 hk a2 hl hs))
    · by_cases h2 : hi < w.toInt
      · rw [if_pos (Or.inr h2)]
        obtain ⟨B1, a1, a2⟩ := g_asm (c := .gt) (y := (false, none, hi)) hB hy (w := hi) rfl (g_o32 w) (Or.inl rfl) h2
        exact g_PRr (g_PRr (g_to a1 e4 hk a2 hl hs))
      · rw [if_neg (by omega)]
        have hlt : (w.toInt - lo).toNat < offs.toList.length := by
          rw [Array.length_toList]
          omega
        have hget : offs[(w.toInt - lo).toNat]? = some (offs.toList[(w.toInt - lo).toNat]) := by
          rw [← Array.getElem?_toList, List.getElem?_eq_getElem hlt]
        rw [hget]
        exact g_PRl (g_tab hk hB rfl hy hl hs offs.toList lo p1 e1 _ _ (List.getElem?_eq_getElem hlt) (by omega))
  · -- lookupswitch
    split at h
    rotate_left
    · cases h
    split at h
    rotate_left
    · cases h
    rename_i hc
    obtain ⟨y, ys, rfl, hy, hs1⟩ := g_ca hs
    replace hs := hs1
    obtain ⟨w, rfl, hy⟩ := hy
    simp only [q_pure]
    rw [if_pos hc]
    exact g_lkp hk rfl hy hl hs _ _ B ps rfl hB h
  · cases h
end
section
def g_C (b : Nat) (v : List Int) (x : a_C) (y : q_E) : Prop := match x with
  | .inl (t, n, .inl q) => ∃ f : Nat → Int32, y = .inl (t, n, .inl f) ∧ ∀ j, j < n → q.1 ≤ (f j).toInt ∧ (f j).toInt ≤ q.2
  | .inl (t, n, .inr (.inl vs)) => ∃ f : Nat → Int32, y = .inl (t, n, .inl f) ∧ vs.length = n ∧ ∀ (j : Nat) (x : a_N), vs[j]? = some x → x.1 = false ∧ g_lin v x.2.1 x.2.2 (f j).toInt
  | .inl (t, n, .inr (.inr (.inl _))) => ∃ f : Nat → Int64, y = .inl (t, n, .inr (.inl f))
  | .inl (t, n, .inr (.inr (.inr rs))) => ∃ f : Nat → Option Nat, y = .inl (t, n, .inr (.inr f)) ∧ rs.length = n ∧ ∀ (j : Nat) (r : Option Nat), rs[j]? = some r → f j = r
  | .inr (ci, vs) => ∃ fs : List Value, y = .inr (ci, fs) ∧ g_s b v vs fs
abbrev g_M (b : Nat) (v : List Int) (ma : List a_C) (m : q_M) : Prop := g_2 (g_C b v) ma m
theorem g_C_ext {b : Nat} {v t : List Int} {x : a_C} {y : q_E} (h : g_C b v x y) : g_C b (v ++ t) x y := by
  match x, h with
  | .inl (_, n, .inl q), h => exact h
  | .inl (_, n, .inr (.inl vs)), h =>
    obtain ⟨f, h1, h2, h3⟩ := h
    exact ⟨f, h1, h2, fun j x hx => ⟨(h3 j x hx).1, g_lin_ext (h3 j x hx).2⟩⟩
  | .inl (_, n, .inr (.inr (.inl _))), h => exact h
  | .inl (_, n, .inr (.inr (.inr rs))), h => exact h
  | .inr (ci, vs), h =>
    obtain ⟨fs, h1, h2⟩ := h
    exact ⟨fs, h1, g_s_ext h2⟩
theorem g_M_ext {b : Nat} {v t : List Int} {ma : List a_C} {m : q_M} (h : g_M b v ma m) : g_M b (v ++ t) ma m := g_2_mono (fun _ _ => g_C_ext) h
theorem g_sz {b : Nat} {v : List Int} {x : a_C} {y : q_E} (h : g_C b v x y) : a_sz x = q_sz y := by
  match x, h with
  | .inl (_, n, .inl q), h => obtain ⟨f, rfl, -⟩ := h; rfl
  | .inl (_, n, .inr (.inl vs)), h => obtain ⟨f, rfl, -⟩ := h; rfl
  | .inl (_, n, .inr (.inr (.inl _))), h => obtain ⟨f, rfl⟩ := h; rfl
  | .inl (_, n, .inr (.inr (.inr rs))), h => obtain ⟨f, rfl, -⟩ := h; rfl
  | .inr (ci, vs), h => obtain ⟨fs, rfl, h2⟩ := h; exact g_2_len h2
theorem g_sl {b : Nat} {v : List Int} : ∀ {ma : List a_C} {m : q_M}, g_M b v ma m → a_sl ma = q_sl m
  | [], [], _ => rfl
  | x :: ma, y :: m, h => by
    have ih := g_sl h.2
    simp only [a_sl, q_sl, List.map_cons, List.sum_cons] at ih ⊢
    rw [ih, g_sz h.1]
  | [], _ :: _, h => h.elim
  | _ :: _, [], h => h.elim
theorem g_ix {j : Int32} {n : Nat} (h1 : 0 ≤ j.toInt) (h2 : j.toInt < n) : q_in j n = true ∧ (j.toNatClampNeg : Int) = j.toInt ∧ j.toNatClampNeg < n ∧ ¬ j < 0 := by
  have e : j.toNatClampNeg = j.toInt.toNat := rfl
  have h3 : ¬ j < 0 := by
    rw [Int32.lt_iff_toInt_lt, Int32.toInt_zero]
    omega
  refine ⟨?_, by omega, by omega, h3⟩
  simp only [q_in, Bool.and_eq_true, Bool.not_eq_true', decide_eq_false_iff_not, decide_eq_true_eq]
  exact ⟨h3, by omega⟩
theorem g_hul {v : List Int} {B : a_B} (hB : g_B v B) : ∀ (vs : List a_N) (j : Nat) (x : a_N) (z : Int32), vs[j]? = some x → x.1 = false → g_lin v x.2.1 x.2.2 z.toInt → (a_hul B vs).1 ≤ z.toInt ∧ z.toInt ≤ (a_hul B vs).2
  | [], j, x, z, h, _, _ => by simp at h
  | [y], j, x, z, h, h1, h2 => by
    match j, h with
    | 0, h =>
      simp at h
      subst h
      exact g_iv hB h2 (by rw [h1]; exact g_o32 z)
    | j + 1, h => simp at h
  | y :: y2 :: vs, 0, x, z, h, h1, h2 => by
    simp at h
    subst h
    have := g_iv hB h2 (by rw [h1]; exact g_o32 z)
    exact ⟨Int.le_trans (a_mn_l _ _) this.1, Int.le_trans this.2 (a_mx_l _ _)⟩
  | y :: y2 :: vs, j + 1, x, z, h, h1, h2 => by
    simp at h
    have := g_hul hB (y2 :: vs) j x z (by simpa using h) h1 h2
    exact ⟨Int.le_trans (a_mn_r _ _) this.1, Int.le_trans this.2 (a_mx_r _ _)⟩
theorem g_rd {b : Nat} {v : List Int} {k : Nat} {B : a_B} (hk : v.length = k) (hB : g_B v B) {t n : Nat} {c : (Int × Int) ⊕ List a_N ⊕ Unit ⊕ List (Option Nat)} {y : q_E} (hC : g_C b v (.inl (t, n, c)) y) {iv : Int × Int} {j : Int32} (hj : iv.1 ≤ j.toInt ∧ j.toInt ≤ iv.2) (h0 : 0 ≤ iv.1) (hn : iv.2 < n) {z : Nat × a_B × a_N} (h : a_rd k B c iv = some z) :
    ∃ f : Nat → Int32, y = .inl (t, n, .inl f) ∧ g_R v z false (f j.toNatClampNeg).toInt := by
  obtain ⟨hq, he, hlt, -⟩ := g_ix (j := j) (n := n) (by omega) (by omega)
  match c, hC, h with
  | .inl q, hC, h =>
    obtain ⟨f, h1, h2⟩ := hC
    refine ⟨f, h1, ?_⟩
    have hh := h2 _ hlt
    simp only [a_rd] at h
    split at h
    · rename_i hq2
      cases h
      exact g_R0 hk hB rfl (by show (f j.toNatClampNeg).toInt = q.1; omega)
    · cases h
      exact g_new hk hB hh.1 hh.2
  | .inr (.inl vs), hC, h =>
    obtain ⟨f, h1, h2, h3⟩ := hC
    refine ⟨f, h1, ?_⟩
    simp only [a_rd] at h
    split at h
    · rename_i hs
      split at h
      · rename_i x hx
        cases h
        have e2 : iv.1.toNat = j.toNatClampNeg := by omega
        rw [e2] at hx
        exact g_R0 hk hB (h3 _ _ hx).1 (h3 _ _ hx).2
      · cases h
    · cases h
      have hl : j.toNatClampNeg < vs.length := by omega
      have hx := List.getElem?_eq_getElem hl
      have hh := g_hul hB vs _ _ (f j.toNatClampNeg) hx (h3 _ _ hx).1 (h3 _ _ hx).2
      exact g_new hk hB hh.1 hh.2
theorem g_upd_u {f : Nat → Int32} {n j : Nat} {w : Int32} {lo hi lo2 hi2 : Int} (h : ∀ i, i < n → lo ≤ (f i).toInt ∧ (f i).toInt ≤ hi) (hw : lo2 ≤ w.toInt ∧ w.toInt ≤ hi2) : ∀ i, i < n → a_mn lo lo2 ≤ (upd f j w i).toInt ∧ (upd f j w i).toInt ≤ a_mx hi hi2 := by
  intro i hi
  unfold upd
  split
  · exact ⟨Int.le_trans (a_mn_r _ _) hw.1, Int.le_trans hw.2 (a_mx_r _ _)⟩
  · exact ⟨Int.le_trans (a_mn_l _ _) (h i hi).1, Int.le_trans (h i hi).2 (a_mx_l _ _)⟩
theorem g_put {b : Nat} {v : List Int} {B : a_B} (hB : g_B v B) {t n : Nat} {c c1 : (Int × Int) ⊕ List a_N ⊕ Unit ⊕ List (Option Nat)} {y : q_E} (hC : g_C b v (.inl (t, n, c)) y) {iv : Int × Int} {j : Int32} (hj : iv.1 ≤ j.toInt ∧ j.toInt ≤ iv.2) (h0 : 0 ≤ iv.1) (hn : iv.2 < n) {x : a_N} {w : Int32} (hx1 : x.1 = false) (hx : g_lin v x.2.1 x.2.2 w.toInt) (h : a_put B c iv x = some c1) :
    ∃ f : Nat → Int32, y = .inl (t, n, .inl f) ∧ g_C b v (.inl (t, n, c1)) (.inl (t, n, .inl (upd f j.toNatClampNeg w))) := by
  obtain ⟨hq, he, hlt, -⟩ := g_ix (j := j) (n := n) (by omega) (by omega)
  have hw := g_iv hB hx (by rw [hx1]; exact g_o32 w)
  match c, hC, h with
  | .inl q, hC, h =>
    obtain ⟨f, h1, h2⟩ := hC
    refine ⟨f, h1, ?_⟩
    cases h
    exact ⟨_, rfl, g_upd_u h2 hw⟩
  | .inr (.inl vs), hC, h =>
    obtain ⟨f, h1, h2, h3⟩ := hC
    refine ⟨f, h1, ?_⟩
    simp only [a_put] at h
    split at h
    · rename_i hs
      cases h
      have e2 : iv.1.toNat = j.toNatClampNeg := by omega
      refine ⟨_, rfl, by rw [List.length_set]; exact h2, fun i y hy => ?_⟩
      rw [e2] at hy
      unfold upd
      by_cases hi : i = j.toNatClampNeg
      · subst hi
        rw [List.getElem?_set_self (by omega)] at hy
        cases hy
        rw [if_pos rfl]
        exact ⟨hx1, hx⟩
      · rw [List.getElem?_set_ne (fun q => hi q.symm)] at hy
        rw [if_neg hi]
        exact h3 i y hy
    · cases h
      refine ⟨_, rfl, g_upd_u (fun i hi => ?_) hw⟩
      have hl : i < vs.length := by omega
      have hx := List.getElem?_eq_getElem hl
      exact g_hul hB vs _ _ (f i) hx (h3 _ _ hx).1 (h3 _ _ hx).2
def g_QR (b : Nat) (v : List Int) (ps : List a_Q) (res : Option (List Value × q_M)) : Prop := ∃ p ∈ ps, ∃ (t : List Int) (st1 : List Value) (m1 : q_M), res = some (st1, m1) ∧ (v ++ t).length = p.1 ∧ g_B (v ++ t) p.2.1 ∧ g_s b (v ++ t) p.2.2.1 st1 ∧ g_M b (v ++ t) p.2.2.2 m1
theorem g_Q0 {b : Nat} {v : List Int} {k : Nat} {B : a_B} {sa : List a_V} {ma : List a_C} {ps : List a_Q} {st : List Value} {m : q_M} {res : Option (List Value × q_M)} (hm : (k, B, sa, ma) ∈ ps) (hr : res = some (st, m)) (hk : v.length = k) (hB : g_B v B) (hs : g_s b v sa st) (hM : g_M b v ma m) : g_QR b v ps res :=
  ⟨_, hm, [], st, m, hr, by simpa using hk, by simpa using hB, by simpa using hs, by simpa using hM⟩
theorem g_Q1 {b : Nat} {v : List Int} {z : Nat × a_B × a_N} {lg : Bool} {w : Int} (hR : g_R v z lg w) {y : Value} (hy : match lg with | false => ∃ c : Int32, y = .int c ∧ c.toInt = w | true => ∃ c : Int64, y = .long c ∧ c.toInt = w) {sa : List a_V} {ma : List a_C} {st : List Value} {m : q_M} {res : Option (List Value × q_M)} (hr : res = some (y :: st, m)) (hs : g_s b v sa st) (hM : g_M b v ma m) : g_QR b v [(z.1, z.2.1, .inl z.2.2 :: sa, ma)] res := by
  obtain ⟨t, h1, h2, h3, h4⟩ := hR
  refine ⟨_, List.mem_singleton.mpr rfl, t, _, m, hr, h1, h2, ⟨?_, g_s_ext hs⟩, g_M_ext hM⟩
  obtain ⟨k1, B1, lg1, o, c⟩ := z
  simp only at h3 h4
  subst h3
  cases lg1 with
  | false =>
    obtain ⟨c1, rfl, rfl⟩ := hy
    exact ⟨c1, rfl, h4⟩
  | true =>
    obtain ⟨c1, rfl, rfl⟩ := hy
    exact ⟨c1, rfl, h4⟩
theorem g_fit {b : Nat} {v : List Int} {ty : FieldType} {x : a_V} {y : Value} (h : a_fit ty x = true) (hv : g_v b v x y) : narrow ty y = y ∧ fits ty y = true := by
  unfold a_fit at h
  split at h
  · obtain ⟨z, rfl, -⟩ := hv; exact ⟨rfl, rfl⟩
  · obtain ⟨z, rfl, -⟩ := hv; exact ⟨rfl, rfl⟩
  · rename_i o
    cases o with
    | none => have hv : y = .null := hv; subst hv; exact ⟨rfl, rfl⟩
    | some a => have hv : y = .ref a := hv; subst hv; exact ⟨rfl, rfl⟩
  · rename_i o
    cases o with
    | none => have hv : y = .null := hv; subst hv; exact ⟨rfl, rfl⟩
    | some a => have hv : y = .ref a := hv; subst hv; exact ⟨rfl, rfl⟩
  · cases h
theorem g_refs {b : Nat} {v : List Int} {k : Nat} {B : a_B} {x : a_N} {z : Int32} {sa : List a_V} {ma : List a_C} {st : List Value} {m : q_M} (hk : v.length = k) (hB : g_B v B) (hx1 : x.1 = false) (hx : g_lin v x.2.1 x.2.2 z.toInt) (hs : g_s b v sa st) (hM : g_M b v ma m) :
    ∀ (rs : List (Option Nat)) (j : Int) (n : Nat) (o : Option Nat), rs[n]? = some o → z.toInt = j + n → g_QR b v (a_ref k B x sa ma j rs) (some (va_rf o :: st, m))
  | [], j, n, o, hn, hz => by simp at hn
  | r :: rs, j, 0, o, hn, hz => by
    simp at hn
    subst hn
    unfold a_ref
    obtain ⟨B1, h1, h2⟩ := g_asm (c := .eq) (y := (false, none, j)) hB hx (w := j) rfl (by rw [hx1]; exact g_o32 z) (Or.inl rfl) (by show z.toInt = j; omega)
    rw [h1]
    refine g_Q0 (List.mem_append_left _ (List.mem_singleton.mpr rfl)) rfl hk h2 ⟨?_, hs⟩ hM
    cases r <;> rfl
  | r :: rs, j, n + 1, o, hn, hz => by
    simp at hn
    unfold a_ref
    obtain ⟨p, hp, h⟩ := g_refs hk hB hx1 hx hs hM rs (j + 1) n o hn (by omega)
    exact ⟨p, List.mem_append_right _ hp, h⟩
theorem g_ac {b : Nat} {v : List Int} : ∀ {sa : List a_V} {st : List Value}, g_s b v sa st → a_ac sa = q_cats st
  | [], [], _ => rfl
  | x :: sa, y :: st, h => by
    have ih := g_ac h.2
    simp only [a_ac, q_cats, List.map_cons, List.sum_cons] at ih ⊢
    rw [ih, g_cat h.1]
  | [], _ :: _, h => h.elim
  | _ :: _, [], h => h.elim
theorem g_cpyu {f g : Nat → Int32} {n0 n1 sp dp w : Nat} {a1 a2 b1 b2 : Int} (hf : ∀ j, j < n0 → a1 ≤ (f j).toInt ∧ (f j).toInt ≤ a2) (hg : ∀ j, j < n1 → b1 ≤ (g j).toInt ∧ (g j).toInt ≤ b2) (hs : sp + w ≤ n0) : ∀ j, j < n1 → a_mn a1 b1 ≤ (va_cpy f g sp dp w j).toInt ∧ (va_cpy f g sp dp w j).toInt ≤ a_mx a2 b2 := by
  intro j hj
  unfold va_cpy
  split
  · have := hf (sp + (j - dp)) (by omega)
    exact ⟨Int.le_trans (a_mn_l _ _) this.1, Int.le_trans this.2 (a_mx_l _ _)⟩
  · exact ⟨Int.le_trans (a_mn_r _ _) (hg j hj).1, Int.le_trans (hg j hj).2 (a_mx_r _ _)⟩
theorem g_bool (x : Int32) : 0 ≤ (vp_nar .boolean x).toInt ∧ (vp_nar .boolean x).toInt ≤ 1 := by
  have h := g_and_r (x := x) (y := 1) (by decide)
  have e : vp_nar .boolean x = x &&& 1 := rfl
  rw [e]
  have e1 : (1 : Int32).toInt = 1 := by decide
  omega
theorem g_len {n : Nat} (h : n < 2147483648) : (Int32.ofNat n).toInt = (n : Int) := nI_toInt (n := n) (by omega)
end
section
theorem g_ain {v : List Int} {B : a_B} (hB : g_B v B) {x : Option Nat × Int} {j : Int32} {n : Nat} (hx : g_lin v x.1 x.2 j.toInt) (h : a_in B (false, x) n = true) : ((a_iv B (false, x)).1 ≤ j.toInt ∧ j.toInt ≤ (a_iv B (false, x)).2) ∧ 0 ≤ (a_iv B (false, x)).1 ∧ (a_iv B (false, x)).2 < n := by
  have hj := g_iv hB (x := (false, x)) hx (g_o32 j)
  simp only [a_in, decide_eq_true_eq] at h
  exact ⟨hj, h.1, h.2⟩
theorem g_mem {G : q_G} {b : Nat} {v : List Int} {k : Nat} {B : a_B} {fr lo : Nat} {i : Instr} {sa : List a_V} {ma : List a_C} {ps : List a_Q} {st : List Value} {m : q_M} (h : a_mem G k B fr lo i sa ma = some ps) (hk : v.length = k) (hB : g_B v B) (hs : g_s b v sa st) (hM : g_M b v ma m) : g_QR b v ps (q_mem G fr lo i st m) := by
  unfold a_mem at h
  split at h
  · -- getfield
    split at h
    rotate_left
    · cases h
    split at h
    rotate_left
    · cases h
    rename_i a r _ ci fs hm
    split at h
    rotate_left
    · cases h
    rename_i hci
    split at h
    rotate_left
    · cases h
    rename_i x hx
    cases h
    obtain ⟨y, ys, rfl, hy, hs1⟩ := g_ca hs
    replace hs := hs1
    have hy : y = .ref a := hy
    subst hy
    obtain ⟨c, hc1, hc2⟩ := g_2_get hM hm
    obtain ⟨fs2, rfl, hf⟩ := hc2
    obtain ⟨z, hz1, hz2⟩ := g_2_get hf hx
    exact g_Q0 (st := z :: ys) (List.mem_singleton.mpr rfl) (by simp only [q_mem, hc1, if_pos hci, hz1]) hk hB ⟨hz2, hs⟩ hM
  · -- putfield
    split at h
    rotate_left
    · cases h
    split at h
    rotate_left
    · cases h
    rename_i x a r _ ci fs hm
    split at h
    rotate_left
    · cases h
    rename_i hc
    obtain ⟨hci, hlen, hfit⟩ := hc
    cases h
    obtain ⟨w, ws, rfl, hw, hs1⟩ := g_ca hs
    replace hs := hs1
    obtain ⟨y, ys, rfl, hy, hs1⟩ := g_ca hs
    replace hs := hs1
    have hy : y = .ref a := hy
    subst hy
    obtain ⟨c, hc1, hc2⟩ := g_2_get hM hm
    obtain ⟨fs2, rfl, hf⟩ := hc2
    obtain ⟨n1, n2⟩ := g_fit hfit hw
    exact g_Q0 (List.mem_singleton.mpr rfl) (by simp only [q_mem, hc1]; rw [if_pos ⟨hci, by rw [← g_2_len hf]; exact hlen, n1, n2⟩]) hk hB hs (g_2_set hM ⟨_, rfl, g_2_set hf hw⟩)
  · -- iaload
    split at h
    rotate_left
    · cases h
    split at h
    rotate_left
    · cases h
    rename_i x a r _ t n c hm
    split at h
    rotate_left
    · cases h
    rename_i hc
    obtain ⟨rfl, hin⟩ := hc
    split at h
    rotate_left
    · cases h
    rename_i z hz
    cases h
    obtain ⟨w, ws, rfl, hw, hs1⟩ := g_ca hs
    replace hs := hs1
    obtain ⟨y, ys, rfl, hy, hs1⟩ := g_ca hs
    replace hs := hs1
    have hy : y = .ref a := hy
    subst hy
    obtain ⟨j, rfl, hj⟩ := hw
    obtain ⟨h1, h2, h3⟩ := g_ain hB hj hin
    dsimp only at h1 h2 h3
    obtain ⟨cc, hc1, hc2⟩ := g_2_get hM hm
    obtain ⟨f, rfl, hR⟩ := g_rd hk hB hc2 h1 h2 h3 hz
    have hq := (g_ix (j := j) (n := n) (by omega) (by omega)).1
    exact g_Q1 (lg := false) hR ⟨_, rfl, rfl⟩ (by simp only [q_mem, hc1]; rw [if_pos ⟨trivial, hq⟩]) hs hM
  · -- baload
    split at h
    rotate_left
    · cases h
    split at h
    rotate_left
    · cases h
    rename_i x a r _ t n c hm
    split at h
    rotate_left
    · cases h
    rename_i hc
    obtain ⟨ht, hin⟩ := hc
    split at h
    rotate_left
    · cases h
    rename_i z hz
    cases h
    obtain ⟨w, ws, rfl, hw, hs1⟩ := g_ca hs
    replace hs := hs1
    obtain ⟨y, ys, rfl, hy, hs1⟩ := g_ca hs
    replace hs := hs1
    have hy : y = .ref a := hy
    subst hy
    obtain ⟨j, rfl, hj⟩ := hw
    obtain ⟨h1, h2, h3⟩ := g_ain hB hj hin
    dsimp only at h1 h2 h3
    obtain ⟨cc, hc1, hc2⟩ := g_2_get hM hm
    obtain ⟨f, rfl, hR⟩ := g_rd hk hB hc2 h1 h2 h3 hz
    have hq := (g_ix (j := j) (n := n) (by omega) (by omega)).1
    exact g_Q1 (lg := false) hR ⟨_, rfl, rfl⟩ (by simp only [q_mem, hc1]; rw [if_pos ⟨ht, hq⟩]) hs hM
  · -- laload
    split at h
    rotate_left
    · cases h
    split at h
    rotate_left
    · cases h
    rename_i x a r _ t n _ hm
    split at h
    rotate_left
    · cases h
    rename_i hc
    obtain ⟨rfl, hin⟩ := hc
    cases h
    obtain ⟨w, ws, rfl, hw, hs1⟩ := g_ca hs
    replace hs := hs1
    obtain ⟨y, ys, rfl, hy, hs1⟩ := g_ca hs
    replace hs := hs1
    have hy : y = .ref a := hy
    subst hy
    obtain ⟨j, rfl, hj⟩ := hw
    obtain ⟨h1, h2, h3⟩ := g_ain hB hj hin
    dsimp only at h1 h2 h3
    obtain ⟨cc, hc1, hc2⟩ := g_2_get hM hm
    obtain ⟨f, rfl⟩ := hc2
    have hq := (g_ix (j := j) (n := n) (by omega) (by omega)).1
    exact g_Q1 (lg := true) (g_top hk hB (g_in64 (f j.toNatClampNeg))) ⟨_, rfl, rfl⟩ (by simp only [q_mem, hc1]; rw [if_pos ⟨trivial, hq⟩]) hs hM
  · -- aaload
    split at h
    rotate_left
    · cases h
    split at h
    rotate_left
    · cases h
    rename_i x a r _ t n rs hm
    split at h
    rotate_left
    · cases h
    rename_i hc
    obtain ⟨ht, ht2, hin, hrl⟩ := hc
    cases h
    obtain ⟨w, ws, rfl, hw, hs1⟩ := g_ca hs
    replace hs := hs1
    obtain ⟨y, ys, rfl, hy, hs1⟩ := g_ca hs
    replace hs := hs1
    have hy : y = .ref a := hy
    subst hy
    obtain ⟨j, rfl, hj⟩ := hw
    obtain ⟨h1, h2, h3⟩ := g_ain hB hj hin
    dsimp only at h1 h2 h3
    obtain ⟨cc, hc1, hc2⟩ := g_2_get hM hm
    obtain ⟨f, rfl, hfl, hf⟩ := hc2
    obtain ⟨hq, he, hlt, -⟩ := g_ix (j := j) (n := n) (by omega) (by omega)
    have hget := List.getElem?_eq_getElem (l := rs) (i := j.toNatClampNeg) (by omega)
    have hfj := hf _ _ hget
    have K := g_refs (b := b) hk hB (x := (false, x)) rfl hj hs hM rs 0 j.toNatClampNeg _ hget (by omega)
    simp only [q_mem, hc1]
    rw [if_pos ⟨ht, hq, ht2⟩, hfj]
    exact K
  · -- iastore
    split at h
    rotate_left
    · cases h
    split at h
    rotate_left
    · cases h
    rename_i x0 x a r _ t n c hm
    split at h
    rotate_left
    · cases h
    rename_i hc
    obtain ⟨rfl, hin⟩ := hc
    split at h
    rotate_left
    · cases h
    rename_i c1 hc1'
    cases h
    obtain ⟨u, us, rfl, hu, hs1⟩ := g_ca hs
    replace hs := hs1
    obtain ⟨w, ws, rfl, hw, hs1⟩ := g_ca hs
    replace hs := hs1
    obtain ⟨y, ys, rfl, hy, hs1⟩ := g_ca hs
    replace hs := hs1
    have hy : y = .ref a := hy
    subst hy
    obtain ⟨j, rfl, hj⟩ := hw
    obtain ⟨e0, rfl, he0⟩ := hu
    obtain ⟨h1, h2, h3⟩ := g_ain hB hj hin
    dsimp only at h1 h2 h3
    obtain ⟨cc, hc1, hc2⟩ := g_2_get hM hm
    obtain ⟨f, rfl, hC⟩ := g_put hB hc2 h1 h2 h3 (x := (false, x0)) rfl he0 hc1'
    have hq := (g_ix (j := j) (n := n) (by omega) (by omega)).1
    exact g_Q0 (List.mem_singleton.mpr rfl) (by simp only [q_mem, hc1]; rw [if_pos ⟨trivial, hq⟩]) hk hB hs (g_2_set hM hC)
  · -- bastore
    split at h
    rotate_left
    · cases h
    split at h
    rotate_left
    · cases h
    rename_i x0 x a r _ t n q0 hm
    split at h
    rotate_left
    · cases h
    rename_i hin
    obtain ⟨u, us, rfl, hu, hs1⟩ := g_ca hs
    replace hs := hs1
    obtain ⟨w, ws, rfl, hw, hs1⟩ := g_ca hs
    replace hs := hs1
    obtain ⟨y, ys, rfl, hy, hs1⟩ := g_ca hs
    replace hs := hs1
    have hy : y = .ref a := hy
    subst hy
    obtain ⟨j, rfl, hj⟩ := hw
    obtain ⟨e0, rfl, he0⟩ := hu
    obtain ⟨h1, h2, h3⟩ := g_ain hB hj hin
    dsimp only at h1 h2 h3
    obtain ⟨cc, hc1, hc2⟩ := g_2_get hM hm
    obtain ⟨f, rfl, hf⟩ := hc2
    have hq := (g_ix (j := j) (n := n) (by omega) (by omega)).1
    split at h
    · rename_i ht
      subst ht
      cases h
      exact g_Q0 (m := m.set a (.inl (2, n, .inl (upd f j.toNatClampNeg (vp_nar .byte e0))))) (List.mem_singleton.mpr rfl) (by simp only [q_mem, hc1]; rw [if_pos ⟨trivial, hq⟩]) hk hB hs (g_2_set hM ⟨_, rfl, g_upd_u hf (g_b8 e0)⟩)
    · split at h
      rotate_left
      · cases h
      rename_i ht
      subst ht
      cases h
      exact g_Q0 (m := m.set a (.inl (3, n, .inl (upd f j.toNatClampNeg (vp_nar .boolean e0))))) (List.mem_singleton.mpr rfl) (by simp only [q_mem, hc1]; rw [if_neg (fun z => absurd z.1 (by decide)), if_pos ⟨trivial, hq⟩]) hk hB hs (g_2_set hM ⟨_, rfl, g_upd_u hf (g_bool e0)⟩)
  · -- lastore
    split at h
    rotate_left
    · cases h
    split at h
    rotate_left
    · cases h
    rename_i x0 x a r _ t n u0 hm
    split at h
    rotate_left
    · cases h
    rename_i hc
    obtain ⟨rfl, hin⟩ := hc
    cases h
    obtain ⟨u, us, rfl, hu, hs1⟩ := g_ca hs
    replace hs := hs1
    obtain ⟨w, ws, rfl, hw, hs1⟩ := g_ca hs
    replace hs := hs1
    obtain ⟨y, ys, rfl, hy, hs1⟩ := g_ca hs
    replace hs := hs1
    have hy : y = .ref a := hy
    subst hy
    obtain ⟨j, rfl, hj⟩ := hw
    obtain ⟨e0, rfl, he0⟩ := hu
    obtain ⟨h1, h2, h3⟩ := g_ain hB hj hin
    dsimp only at h1 h2 h3
    obtain ⟨cc, hc1, hc2⟩ := g_2_get hM hm
    obtain ⟨f, rfl⟩ := hc2
    have hq := (g_ix (j := j) (n := n) (by omega) (by omega)).1
    have hM2 := g_2_set (i := a) hM (a := .inl (1, n, .inr (.inr (.inl u0)))) (b := .inl (1, n, .inr (.inl (vp_updL f j.toNatClampNeg e0)))) ⟨_, rfl⟩
    have e9 : ma.set a (.inl (1, n, .inr (.inr (.inl u0)))) = ma := by
      apply List.ext_getElem?
      intro z
      rw [List.getElem?_set]
      split
      · rename_i hz
        subst hz
        split
        · exact hm.symm
        · rename_i hl
          exact absurd (List.getElem?_eq_some_iff.mp hm).1 hl
      · rfl
    rw [e9] at hM2
    exact g_Q0 (List.mem_singleton.mpr rfl) (by simp only [q_mem, hc1]; rw [if_pos ⟨trivial, hq⟩]) hk hB hs hM2
  · -- aastore
    split at h
    rotate_left
    · cases h
    split at h
    rotate_left
    · cases h
    rename_i x0 x a r _ _ t n rs ci _ hm hmv
    split at h
    rotate_left
    · cases h
    rename_i hc
    obtain ⟨ht, hin, hsing, hty, hty2⟩ := hc
    cases h
    obtain ⟨u, us, rfl, hu, hs1⟩ := g_ca hs
    replace hs := hs1
    obtain ⟨w, ws, rfl, hw, hs1⟩ := g_ca hs
    replace hs := hs1
    obtain ⟨y, ys, rfl, hy, hs1⟩ := g_ca hs
    replace hs := hs1
    have hy : y = .ref a := hy
    subst hy
    have hu : u = .ref x0 := hu
    subst hu
    obtain ⟨j, rfl, hj⟩ := hw
    obtain ⟨h1, h2, h3⟩ := g_ain hB hj hin
    dsimp only at h1 h2 h3
    obtain ⟨cc, hc1, hc2⟩ := g_2_get hM hm
    obtain ⟨f, rfl, hfl, hf⟩ := hc2
    obtain ⟨cc2, hc3, hc4⟩ := g_2_get hM hmv
    obtain ⟨fs2, rfl, -⟩ := hc4
    obtain ⟨hq, he, hlt, -⟩ := g_ix (j := j) (n := n) (by omega) (by omega)
    refine g_Q0 (List.mem_singleton.mpr rfl) (by simp only [q_mem, hc1, hc3]; rw [if_pos ⟨ht, hq, hty, hty2⟩]) hk hB hs (g_2_set hM ⟨_, rfl, by rw [List.length_set]; exact hfl, fun i y hy => ?_⟩)
    have e2 : (a_iv B (false, x)).1.toNat = j.toNatClampNeg := by omega
    rw [e2] at hy
    unfold va_up
    by_cases hi : i = j.toNatClampNeg
    · subst hi
      rw [List.getElem?_set_self (by omega)] at hy
      cases hy
      rw [if_pos rfl]
    · rw [List.getElem?_set_ne (fun q => hi q.symm)] at hy
      rw [if_neg hi]
      exact hf i y hy
  · -- arraylength
    split at h
    rotate_left
    · cases h
    split at h
    rotate_left
    · cases h
    rename_i a r _ t n c hm
    split at h
    rotate_left
    · cases h
    rename_i hc
    cases h
    obtain ⟨y, ys, rfl, hy, hs1⟩ := g_ca hs
    replace hs := hs1
    have hy : y = .ref a := hy
    subst hy
    obtain ⟨cc, hc1, hc2⟩ := g_2_get hM hm
    have hcell : ∃ z, cc = .inl (t, n, z) := by
      match c, hc2 with
      | .inl q, hc2 => obtain ⟨f, rfl, -⟩ := hc2; exact ⟨_, rfl⟩
      | .inr (.inl vs), hc2 => obtain ⟨f, rfl, -⟩ := hc2; exact ⟨_, rfl⟩
      | .inr (.inr (.inl _)), hc2 => obtain ⟨f, rfl⟩ := hc2; exact ⟨_, rfl⟩
      | .inr (.inr (.inr rs)), hc2 => obtain ⟨f, rfl, -⟩ := hc2; exact ⟨_, rfl⟩
    obtain ⟨z, rfl⟩ := hcell
    exact g_Q0 (st := .int (Int32.ofNat n) :: ys) (List.mem_singleton.mpr rfl) (by simp only [q_mem, hc1]; rw [if_pos hc.1]) hk hB ⟨⟨_, rfl, g_len hc.2⟩, hs⟩ hM
  · -- Object's own start, a row copied
    split at h
    · rename_i hn
      split at h
      rotate_left
      · cases h
      split at h
      rotate_left
      · cases h
      rename_i hc
      cases h
      obtain ⟨y, ys, rfl, hy, hs1⟩ := g_ca hs
      replace hs := hs1
      have hy : y = .ref _ := hy
      subst hy
      exact g_Q0 (List.mem_singleton.mpr rfl) (by simp only [q_mem]; rw [if_pos hn, if_pos ⟨hc.1, by rw [← g_ac hs]; exact hc.2⟩]) hk hB hs hM
    · rename_i hn0
      split at h
      rotate_left
      · cases h
      rename_i hn
      split at h
      rotate_left
      · cases h
      rename_i wv dv d sv j r
      split at h
      rotate_left
      · cases h
      rename_i hc
      obtain ⟨y1, s1, rfl, hy1, hs1⟩ := g_ca hs
      replace hs := hs1
      obtain ⟨y2, s2, rfl, hy2, hs1⟩ := g_ca hs
      replace hs := hs1
      obtain ⟨y3, s3, rfl, hy3, hs1⟩ := g_ca hs
      replace hs := hs1
      obtain ⟨y4, s4, rfl, hy4, hs1⟩ := g_ca hs
      replace hs := hs1
      obtain ⟨y5, s5, rfl, hy5, hs1⟩ := g_ca hs
      replace hs := hs1
      have hy3 : y3 = .ref _ := hy3
      subst hy3
      have hy5 : y5 = .ref _ := hy5
      subst hy5
      obtain ⟨w, rfl, hy1⟩ := hy1
      obtain ⟨dp, rfl, hy2⟩ := hy2
      obtain ⟨sp, rfl, hy4⟩ := hy4
      have i1 := g_iv hB (x := (false, _)) hy1 (g_o32 w)
      have i2 := g_iv hB (x := (false, _)) hy2 (g_o32 dp)
      have i4 := g_iv hB (x := (false, _)) hy4 (g_o32 sp)
      unfold a_cpy at h
      split at h
      · rename_i t0 n0 q0 t1 n1 p0 hm0 hm1
        split at h
        rotate_left
        · cases h
        rename_i hd
        obtain ⟨rfl, rfl, d1, d2, d3, d4, d5⟩ := hd
        cases h
        obtain ⟨c0, hc0, hg0⟩ := g_2_get hM hm0
        obtain ⟨c1, hc1, hg1⟩ := g_2_get hM hm1
        obtain ⟨f, rfl, hf⟩ := hg0
        obtain ⟨g, rfl, hg⟩ := hg1
        have n1' : ¬ w < 0 := by rw [Int32.lt_iff_toInt_lt, Int32.toInt_zero]; omega
        have n2' : ¬ dp < 0 := by rw [Int32.lt_iff_toInt_lt, Int32.toInt_zero]; omega
        have n4' : ¬ sp < 0 := by rw [Int32.lt_iff_toInt_lt, Int32.toInt_zero]; omega
        have e1 : w.toNatClampNeg = w.toInt.toNat := rfl
        have e2 : dp.toNatClampNeg = dp.toInt.toNat := rfl
        have e4 : sp.toNatClampNeg = sp.toInt.toNat := rfl
        exact g_Q0 (List.mem_singleton.mpr rfl) (by
          simp only [q_mem]
          rw [if_neg hn0, if_pos hn]
          simp only [q_copy]
          rw [if_pos ⟨hc.1, by rw [← g_ac hs]; exact hc.2, n4', n2', n1'⟩]
          simp only [q_cpy, hc0, hc1]
          rw [if_pos ⟨trivial, trivial, by omega, by omega⟩]) hk hB hs (g_2_set hM ⟨_, rfl, g_cpyu hf hg (by omega)⟩)
      · rename_i t0 n0 u0 t1 n1 u1 hm0 hm1
        split at h
        rotate_left
        · cases h
        rename_i hd
        obtain ⟨rfl, rfl, d1, d2, d3, d4, d5⟩ := hd
        cases h
        obtain ⟨c0, hc0, hg0⟩ := g_2_get hM hm0
        obtain ⟨c1, hc1, hg1⟩ := g_2_get hM hm1
        obtain ⟨f, rfl⟩ := hg0
        obtain ⟨g, rfl⟩ := hg1
        have n1' : ¬ w < 0 := by rw [Int32.lt_iff_toInt_lt, Int32.toInt_zero]; omega
        have n2' : ¬ dp < 0 := by rw [Int32.lt_iff_toInt_lt, Int32.toInt_zero]; omega
        have n4' : ¬ sp < 0 := by rw [Int32.lt_iff_toInt_lt, Int32.toInt_zero]; omega
        have e1 : w.toNatClampNeg = w.toInt.toNat := rfl
        have e2 : dp.toNatClampNeg = dp.toInt.toNat := rfl
        have e4 : sp.toNatClampNeg = sp.toInt.toNat := rfl
        exact g_Q0 (List.mem_singleton.mpr rfl) (by
          simp only [q_mem]
          rw [if_neg hn0, if_pos hn]
          simp only [q_copy]
          rw [if_pos ⟨hc.1, by rw [← g_ac hs]; exact hc.2, n4', n2', n1'⟩]
          simp only [q_cpy, hc0, hc1]
          rw [if_pos ⟨trivial, trivial, by omega, by omega⟩]) hk hB hs (g_2_set hM ⟨_, rfl⟩)
      · cases h
  · cases h
end
section
theorem g_dft {b : Nat} {v : List Int} {ty : FieldType} {x : a_V} (h : a_dft ty = some x) : g_v b v x (defaultValue ty) := by
  cases ty <;> simp only [a_dft] at h <;> first
    | (cases h; done)
    | (cases h; exact ⟨0, rfl, rfl⟩)
    | (cases h; rfl)
theorem g_dfs {b : Nat} {v : List Int} {Y : Nat → FieldType} : ∀ {n : Nat} {l : List a_V}, a_dfs Y n = some l → g_s b v l ((List.range n).map (fun k => defaultValue (Y k)))
  | 0, l, h => by
    cases h
    trivial
  | n + 1, l, h => by
    unfold a_dfs at h
    split at h
    · rename_i l1 x h1 h2
      cases h
      rw [List.range_succ, List.map_append]
      exact g_2_app (g_dfs h1) ⟨g_dft h2, trivial⟩
    · cases h
theorem g_cel {G : q_G} {b : Nat} {v : List Int} {B : a_B} {i : Instr} {sa sa1 : List a_V} {ma : List a_C} {x : a_C} {st : List Value} {m : q_M} (h : a_cel G B i sa ma = some (sa1, x)) (hB : g_B v B) (hs : g_s b v sa st) (hM : g_M b v ma m) : ∃ st1 y, q_new G i st m = some (st1, y) ∧ g_s b v sa1 st1 ∧ g_C b v x y := by
  have hlen := g_2_len hM
  unfold a_cel at h
  split at h
  · split at h
    rotate_left
    · cases h
    rename_i N hc
    split at h
    rotate_left
    · cases h
    rename_i l hl
    cases h
    exact ⟨.ref m.length :: st, _, by simp only [q_new, hc], ⟨by rw [hlen]; rfl, hs⟩, _, rfl, g_dfs hl⟩
  · split at h
    rotate_left
    · cases h
    split at h
    rotate_left
    · cases h
    rename_i a w0 r hc
    obtain ⟨c1, c2, c3, c4⟩ := hc
    cases h
    obtain ⟨y, ys, rfl, hy, hs1⟩ := g_ca hs
    replace hs := hs1
    obtain ⟨w, rfl, hy⟩ := hy
    have hi := g_iv hB (x := (false, _)) hy (g_o32 w)
    have n1 : ¬ w < 0 := by rw [Int32.lt_iff_toInt_lt, Int32.toInt_zero]; omega
    have e1 : w.toNatClampNeg = w.toInt.toNat := rfl
    have e2 : w.toNatClampNeg = (a_iv B (false, w0)).1.toNat := by omega
    refine ⟨.ref m.length :: ys, _, by simp only [q_new]; rw [if_pos ⟨n1, by omega, c4⟩], ⟨by rw [hlen]; rfl, hs⟩, ?_⟩
    rw [e2]
    split
    · exact ⟨_, rfl⟩
    · split
      · refine ⟨_, rfl, by simp, fun j x hx => ?_⟩
        have := List.mem_of_getElem? hx
        rw [List.mem_replicate] at this
        rw [this.2]
        exact ⟨rfl, rfl⟩
      · exact ⟨_, rfl, fun j _ => ⟨by show (0 : Int) ≤ (0 : Int32).toInt; decide, by show (0 : Int32).toInt ≤ 0; decide⟩⟩
  · split at h
    rotate_left
    · cases h
    split at h
    rotate_left
    · cases h
    rename_i t w0 r hc
    obtain ⟨c1, c2, c3⟩ := hc
    cases h
    obtain ⟨y, ys, rfl, hy, hs1⟩ := g_ca hs
    replace hs := hs1
    obtain ⟨w, rfl, hy⟩ := hy
    have hi := g_iv hB (x := (false, _)) hy (g_o32 w)
    have n1 : ¬ w < 0 := by rw [Int32.lt_iff_toInt_lt, Int32.toInt_zero]; omega
    have e1 : w.toNatClampNeg = w.toInt.toNat := rfl
    have e2 : w.toNatClampNeg = (a_iv B (false, w0)).1.toNat := by omega
    refine ⟨.ref m.length :: ys, _, by simp only [q_new]; rw [if_pos ⟨n1, by omega⟩], ⟨by rw [hlen]; rfl, hs⟩, ?_⟩
    rw [e2]
    refine ⟨_, rfl, by simp, fun j r hr => ?_⟩
    have := List.mem_of_getElem? hr
    rw [List.mem_replicate] at this
    exact this.2.symm
  · cases h
theorem g_lk {b : Nat} {v : List Int} {i : Instr} {sa sa1 : List a_V} {st : List Value} (h : a_lk i sa = some sa1) (hs : g_s b v sa st) : ∃ st1, q_lk i st = some st1 ∧ g_s b v sa1 st1 := by
  unfold a_lk at h
  split at h
  · cases h
    exact ⟨_, rfl, ⟨_, rfl, rfl⟩, hs⟩
  · cases h
    exact ⟨_, rfl, ⟨_, rfl, rfl⟩, hs⟩
  · cases h
theorem g_rcv {G : q_G} {M : q_MI} {b : Nat} {v : List Int} {as : List a_V} {ma : List a_C} {vs : List Value} {m : q_M} (h : a_rcv G M as ma = true) (hs : g_s b v as vs) (hM : g_M b v ma m) : q_rcv G M vs m = true := by
  unfold a_rcv at h
  unfold q_rcv
  split at h
  · rename_i hkk
    simp only [hkk]
  · rename_i hkk
    simp only [hkk]
    split at h
    rotate_left
    · cases h
    split at h
    rotate_left
    · cases h
    rename_i a r _ ci fs hm
    obtain ⟨y, ys, rfl, hy, hs1⟩ := g_ca hs
    replace hs := hs1
    have hy : y = .ref a := hy
    subst hy
    obtain ⟨c, hc1, hc2⟩ := g_2_get hM hm
    obtain ⟨f, rfl, -⟩ := hc2
    simp only [hc1]
    exact h
  · rename_i hk1 hk0
    split at h
    rotate_left
    · cases h
    rename_i a r
    obtain ⟨y, ys, rfl, hy, hs1⟩ := g_ca hs
    replace hs := hs1
    have hy : y = .ref _ := hy
    subst hy
    split
    · rfl
    · exact absurd (by assumption) hk0
    · rfl
theorem g_call {G : q_G} {M M1 : q_MI} {k : Nat} {b : Nat} {v : List Int} {sa as rest : List a_V} {ma : List a_C} {st : List Value} {m : q_M} (h : a_call G M k sa ma = some (M1, as, rest)) (hs : g_s b v sa st) (hM : g_M b v ma m) : ∃ vs rs, q_call G M k st m = some (M1, vs, rs) ∧ g_s b v as vs ∧ g_s b v rest rs ∧ (q_gM G)[k]? = some M1 := by
  unfold a_call at h
  split at h
  · cases h
  rename_i M2 hM2
  split at h
  rotate_left
  · cases h
  rename_i hc
  cases h
  obtain ⟨c1, c2, c3, c4, c5, c6⟩ := hc
  have ht := g_2_take (q_na M1) hs
  have hd := g_2_drop (q_na M1) hs
  refine ⟨_, _, ?_, g_2_rev ht, hd, hM2⟩
  unfold q_call
  rw [hM2]
  simp only
  rw [if_pos ⟨by rw [← g_2_len hs]; exact c1, by rw [← g_ac hd]; exact c2, c3, c4, by rw [← g_ac ht]; exact c5, g_rcv c6 (g_2_rev ht) hM⟩]
theorem g_lvs {b : Nat} {v : List Int} : ∀ {as : List a_V} {vs : List Value} (i : Nat), g_s b v as vs → g_L b v (a_lvs i as) (lv_args i vs)
  | [], [], _, _ => trivial
  | x :: as, y :: vs, i, h => by
    refine ⟨⟨rfl, h.1⟩, ?_⟩
    rw [g_cat h.1]
    exact g_lvs _ h.2
  | [], _ :: _, _, h => h.elim
  | _ :: _, [], _, h => h.elim
theorem g_ret {b : Nat} {v : List Int} {B : a_B} {M : q_MI} {i : Instr} {sa ra : List a_V} {st : List Value} (h : a_ret B M i sa = some ra) (hB : g_B v B) (hs : g_s b v sa st) : ∃ r, q_retn M i st = some r ∧ g_s b v ra r.toList := by
  unfold a_ret at h
  split at h
  · split at h
    rotate_left
    · cases h
    obtain ⟨y, ys, rfl, hy, hs1⟩ := g_ca hs
    replace hs := hs1
    have := g_na hs
    subst this
    have hy0 := hy
    obtain ⟨w, rfl, hy⟩ := hy
    split at h
    · rename_i hr
      cases h
      exact ⟨some (.int w), by simp only [q_retn, hr]; exact if_pos (show narrow .int (.int w) = .int w from rfl), hy0, trivial⟩
    · rename_i hr
      split at h
      rotate_left
      · cases h
      rename_i hc
      cases h
      have hi := g_iv hB (x := (false, _)) hy (g_o32 w)
      have hw : w = 0 ∨ w = 1 := by
        have : w.toInt = 0 ∨ w.toInt = 1 := by omega
        rcases this with h0 | h0
        · exact Or.inl (Int32.toInt_inj.mp (h0.trans (by decide)))
        · exact Or.inr (Int32.toInt_inj.mp (h0.trans (by decide)))
      refine ⟨some (.int w), ?_, hy0, trivial⟩
      simp only [q_retn, hr]
      rw [if_pos (by rcases hw with rfl | rfl <;> rfl)]
    · cases h
  · split at h
    rotate_left
    · cases h
    split at h
    rotate_left
    · cases h
    rename_i hr
    cases h
    obtain ⟨y, ys, rfl, hy, hs1⟩ := g_ca hs
    replace hs := hs1
    have := g_na hs
    subst this
    have hy0 := hy
    obtain ⟨w, rfl, hy⟩ := hy
    exact ⟨some (.long w), by simp only [q_retn]; rw [if_pos hr], hy0, trivial⟩
  · split at h
    rotate_left
    · cases h
    split at h
    rotate_left
    · cases h
    rename_i hr
    cases h
    have := g_na hs
    subst this
    exact ⟨none, by simp only [q_retn]; rw [if_pos hr], trivial⟩
  · cases h
end
section
theorem q_fuel {G : q_G} : ∀ (n k : Nat) (M : q_MI) (pc : Nat) (l : q_L) (st : List Value) (m : q_M) (r : Option Value × q_M), n ≤ k → q_run G n M pc l st m = some r → q_run G k M pc l st m = some r
  | 0, _, _, _, _, _, _, _, _, h => by simp [q_run] at h
  | n + 1, 0, _, _, _, _, _, _, hk, _ => by omega
  | n + 1, k + 1, M, pc, l, st, m, r, hk, h => by
    have hk : n ≤ k := by omega
    unfold q_run at h ⊢
    split at h
    · cases h
    rename_i I pc0 raw len i pos hf
    try simp only [hf]
    split at h
    · rename_i hg
      try simp only [hg]
      split at h
      rotate_left
      · cases h
      rename_i hp
      try simp only [hp]
      exact q_fuel n k _ _ _ _ _ _ hk h
    · rename_i hg
      try simp only [hg]
      split at h
      rotate_left
      · cases h
      rename_i hp
      try simp only [hp]
      exact q_fuel n k _ _ _ _ _ _ hk h
    · rename_i hg
      try simp only [hg]
      split at h
      rotate_left
      · cases h
      rename_i hp
      try simp only [hp]
      exact q_fuel n k _ _ _ _ _ _ hk h
    · rename_i hg
      try simp only [hg]
      split at h
      · rename_i j hj
        try simp only [hj]
        split at h
        rotate_left
        · cases h
        rename_i hc
        try simp only [hc]
        split at h
        rotate_left
        · cases h
        rename_i hr
        rw [q_fuel n k _ _ _ _ _ _ hk hr]
        exact q_fuel n k _ _ _ _ _ _ hk h
      · rename_i hj
        try simp only [hj]
        exact h
    · rename_i hg0 hg1 hg2 hg3
      split at h
      rotate_left
      · cases h
      rename_i hp
      try simp only [hp]
      exact q_fuel n k _ _ _ _ _ _ hk h
theorem q_lfuel {G : q_G} {b L : Nat} {xs : Nat → Int32} {M : q_MI} : ∀ (n k : Nat) (pc : Nat) (l : q_L) (st : List Value) (m : q_M) (r : Int32 × q_M), n ≤ k → q_lrun G b L xs M n pc l st m = some r → q_lrun G b L xs M k pc l st m = some r
  | 0, _, _, _, _, _, _, _, h => by simp [q_lrun] at h
  | n + 1, 0, _, _, _, _, _, hk, _ => by omega
  | n + 1, k + 1, pc, l, st, m, r, hk, h => by
    have hk : n ≤ k := by omega
    unfold q_lrun at h ⊢
    split at h
    · cases h
    rename_i I pc0 raw len i pos hf
    try simp only [hf]
    split at h
    · rename_i hg
      try simp only [hg]
      split at h
      rotate_left
      · cases h
      rename_i hp
      try simp only [hp]
      exact q_lfuel n k _ _ _ _ _ hk h
    · rename_i hg
      try simp only [hg]
      split at h
      rotate_left
      · cases h
      rename_i hp
      try simp only [hp]
      exact q_lfuel n k _ _ _ _ _ hk h
    · rename_i hg
      try simp only [hg]
      split at h
      rotate_left
      · cases h
      rename_i hp
      try simp only [hp]
      exact q_lfuel n k _ _ _ _ _ hk h
    · rename_i hg
      try simp only [hg]
      split at h
      · rename_i j hj
        try simp only [hj]
        split at h
        rotate_left
        · cases h
        rename_i hc
        try simp only [hc]
        split at h
        rotate_left
        · cases h
        rename_i hr
        rw [q_fuel n k _ _ _ _ _ _ hk hr]
        exact q_lfuel n k _ _ _ _ _ hk h
      · rename_i hj
        try simp only [hj]
        exact h
    · rename_i hg0 hg1 hg2 hg3
      split at h
      rotate_left
      · cases h
      rename_i hp
      try simp only [hp]
      exact q_lfuel n k _ _ _ _ _ hk h
abbrev q_Fr : Type := q_MI × Nat × q_L × List Value
/-- frames (the law's the last): with r given back to the topmost, they come to the law's end as P says -/
def q_Kt (G : q_G) (b L : Nat) (xs : Nat → Int32) (ML : q_MI) (P : Int32 → q_M → Prop) : List q_Fr → Option Value → q_M → Prop
  | [], _, _ => False
  | f :: fs, r, m => match fs with
    | [] => ∃ (n : Nat) (v : Int32) (qF : q_M), q_lrun G b L xs ML n f.2.1 f.2.2.1 (r.toList ++ f.2.2.2) m = some (v, qF) ∧ P v qF
    | f2 :: fs2 => ∃ (n : Nat) (r1 : Option Value) (m1 : q_M), q_run G n f.1 f.2.1 f.2.2.1 (r.toList ++ f.2.2.2) m = some (r1, m1) ∧ q_Kt G b L xs ML P (f2 :: fs2) r1 m1
def q_srt : List q_I → Bool
  | [] => true
  | [_] => true
  | I :: J :: C => Nat.blt I.1 J.1 && q_srt (J :: C)
theorem q_srt_lt : ∀ (C : List q_I) (I : q_I), q_srt (I :: C) = true → ∀ J ∈ C, I.1 < J.1
  | [], I, _, J, hJ => by cases hJ
  | K :: C, I, h, J, hJ => by
    simp only [q_srt, Bool.and_eq_true] at h
    have h1 : I.1 < K.1 := Nat.blt_eq.mp h.1
    rcases List.mem_cons.mp hJ with rfl | hJ
    · exact h1
    · exact Nat.lt_trans h1 (q_srt_lt C K h.2 J hJ)
theorem q_fd_suf : ∀ {C : List q_I} {I : q_I} {tl : List q_I}, q_srt C = true → (I :: tl) <:+ C → q_fd C I.1 = some I
  | [], I, tl, _, h => by simp at h
  | J :: C, I, tl, hs, h => by
    unfold q_fd
    rcases List.suffix_cons_iff.mp h with e | h2
    · cases e
      rw [if_pos rfl]
    · have hm : I ∈ C := h2.subset List.mem_cons_self
      have hlt := q_srt_lt C J hs I hm
      rw [if_neg (by omega)]
      refine q_fd_suf ?_ h2
      cases C with
      | nil => cases hm
      | cons K C =>
        simp only [q_srt, Bool.and_eq_true] at hs
        exact hs.2
theorem a_jmp_suf (pc : Nat) : ∀ C : List q_I, a_jmp C pc <:+ C
  | [] => List.suffix_refl _
  | I :: C => by
    unfold a_jmp
    split
    · exact (a_jmp_suf pc C).trans (List.suffix_cons I C)
    · exact List.suffix_refl _
theorem a_at_ok {M : q_MI} {tl c : List q_I} {pc : Nat} (h : a_at M tl pc = some c) (ht : tl <:+ q_mC M) : ∃ J l, c = J :: l ∧ J.1 = pc ∧ c <:+ q_mC M := by
  have hj : ∀ {c : List q_I}, (match a_jmp (q_mC M) pc with | J :: l => if J.1 = pc then some (J :: l) else none | [] => none) = some c → ∃ J l, c = J :: l ∧ J.1 = pc ∧ c <:+ q_mC M := by
    intro c h
    have hs := a_jmp_suf pc (q_mC M)
    split at h
    · rename_i J l hJ
      split at h
      · rename_i hpc
        cases h
        rw [hJ] at hs
        exact ⟨J, l, rfl, hpc, hs⟩
      · cases h
    · cases h
  unfold a_at at h
  split at h
  · split at h
    · rename_i hpc
      cases h
      exact ⟨_, _, rfl, hpc, ht⟩
    · exact hj h
  · exact hj h
def g_F (b : Nat) (v : List Int) (f : a_F) (p : q_Fr) : Prop := f.1 = p.1 ∧ q_srt (q_mC f.1) = true ∧ (∃ J l, f.2.1 = J :: l ∧ J.1 = p.2.1 ∧ f.2.1 <:+ q_mC f.1) ∧ g_L b v f.2.2.1 p.2.2.1 ∧ g_s b v f.2.2.2 p.2.2.2
def g_S (L : Nat) (xs : Nat → Int32) (v : List Int) (S : List (a_N × a_N)) : Prop := ∀ q ∈ S, ∃ j : Int, g_lin v q.1.2.1 q.1.2.2 j ∧ 0 ≤ j ∧ j < L ∧ q.2.1 = false ∧ g_lin v q.2.2.1 q.2.2.2 (xs j.toNat).toInt
def g_K (ML : q_MI) (b L : Nat) (xs : Nat → Int32) (v : List Int) (K : a_K) (ps : List q_Fr) (m : q_M) : Prop := v.length = K.1 ∧ g_B v K.2.1 ∧ g_S L xs v K.2.2.1 ∧ g_2 (g_F b v) K.2.2.2.1 ps ∧ g_M b v K.2.2.2.2 m ∧ v[0]? = some (L : Int) ∧ L < 2147483648 ∧ (∀ f, ps.getLast? = some f → f.1 = ML)
theorem g_F_ext {b : Nat} {v t : List Int} {f : a_F} {p : q_Fr} (h : g_F b v f p) : g_F b (v ++ t) f p := ⟨h.1, h.2.1, h.2.2.1, g_L_ext h.2.2.2.1, g_s_ext h.2.2.2.2⟩
theorem g_S_ext {L : Nat} {xs : Nat → Int32} {v t : List Int} {S : List (a_N × a_N)} (h : g_S L xs v S) : g_S L xs (v ++ t) S := by
  intro q hq
  obtain ⟨j, h1, h2, h3, h4, h5⟩ := h q hq
  exact ⟨j, g_lin_ext h1, h2, h3, h4, g_lin_ext h5⟩
theorem g_0_ext {v t : List Int} {z : Int} (h : v[0]? = some z) : (v ++ t)[0]? = some z := by
  rw [List.getElem?_append_left (List.getElem?_eq_some_iff.mp h).1]
  exact h
theorem g_lin_uniq {v : List Int} {o : Option Nat} {c x y : Int} (h1 : g_lin v o c x) (h2 : g_lin v o c y) : x = y := by
  cases o with
  | none =>
    have h1 : x = c := h1
    have h2 : y = c := h2
    omega
  | some i =>
    obtain ⟨w, a1, a2⟩ := h1
    obtain ⟨u, b1, b2⟩ := h2
    rw [a1] at b1
    cases b1
    omega
theorem g_mmo {S : List (a_N × a_N)} {x y : a_N} (h : a_mmo S x = some y) : ∃ q ∈ S, q.1.2.1 = x.2.1 ∧ q.1.2.2 = x.2.2 ∧ q.2 = y := by
  induction S with
  | nil => cases h
  | cons q S ih =>
    unfold a_mmo at h
    split at h
    · rename_i he
      cases h
      simp only [a_eqn, decide_eq_true_eq] at he
      exact ⟨q, List.mem_cons_self, he.1, he.2, rfl⟩
    · obtain ⟨p, hp, h⟩ := ih h
      exact ⟨p, List.mem_cons_of_mem _ hp, h⟩
theorem g_scr {b L : Nat} {xs : Nat → Int32} {v : List Int} {k k1 : Nat} {B B1 : a_B} {S S1 : List (a_N × a_N)} {i : Instr} {sa sa1 : List a_V} {st : List Value} (h : a_scr k B S i sa = some (k1, B1, S1, sa1)) (hk : v.length = k) (hB : g_B v B) (hS : g_S L xs v S) (h0 : v[0]? = some (L : Int)) (hL : L < 2147483648) (hs : g_s b v sa st) :
    ∃ (t : List Int) (st1 : List Value), q_scr b L xs i st = some st1 ∧ (v ++ t).length = k1 ∧ g_B (v ++ t) B1 ∧ g_S L xs (v ++ t) S1 ∧ g_s b (v ++ t) sa1 st1 := by
  unfold a_scr at h
  split at h
  · split at h
    rotate_left
    · cases h
    rename_i x r
    obtain ⟨w, ws, rfl, hw, hs1⟩ := g_ca hs
    replace hs := hs1
    obtain ⟨y, ys, rfl, hy, hs1⟩ := g_ca hs
    replace hs := hs1
    have hy : y = .retAddr b := hy
    subst hy
    obtain ⟨j, rfl, hj⟩ := hw
    split at h
    · rename_i y0 hy0
      cases h
      obtain ⟨q, hq, e1, e2, rfl⟩ := g_mmo hy0
      obtain ⟨z, z1, z2, z3, z4, z5⟩ := hS q hq
      rw [e1, e2] at z1
      have hz := g_lin_uniq hj z1
      obtain ⟨hin, he, hlt, -⟩ := g_ix (j := j) (n := L) (by omega) (by omega)
      refine ⟨[], .int (xs j.toNatClampNeg) :: ys, by simp only [q_scr]; rw [if_pos ⟨trivial, hin⟩], by simpa using hk, by simpa using hB, by simpa using hS, ?_, by simpa using hs⟩
      have e3 : z.toNat = j.toNatClampNeg := by omega
      rw [e3] at z5
      obtain ⟨qa, qb⟩ := q
      obtain ⟨lg, oo, cc⟩ := qb
      simp only at z4 z5
      subst z4
      exact ⟨_, rfl, by simpa using z5⟩
    · split at h
      rotate_left
      · cases h
      rename_i hc
      cases h
      have hi := g_iv hB (x := (false, x)) hj (g_o32 j)
      have hl := g_iv hB (x := (true, some 0, 0)) (z := (L : Int)) ⟨L, h0, by show (L : Int) = L + 0; omega⟩ (Or.inr ⟨by show (-9223372036854775808 : Int) ≤ _; omega, by show _ ≤ (9223372036854775807 : Int); omega⟩)
      obtain ⟨hin, he, hlt, -⟩ := g_ix (j := j) (n := L) (by omega) (by omega)
      obtain ⟨t, t1, t2, t3, t4⟩ := g_top hk hB (lg := false) (g_in32 (xs j.toNatClampNeg))
      refine ⟨t, .int (xs j.toNatClampNeg) :: ys, by simp only [q_scr]; rw [if_pos ⟨trivial, hin⟩], t1, t2, ?_, ⟨_, rfl, t4⟩, g_s_ext hs⟩
      intro q hq
      rcases List.mem_cons.mp hq with rfl | hq
      · exact ⟨j.toInt, g_lin_ext hj, by omega, by omega, rfl, t4⟩
      · exact g_S_ext hS q hq
  · split at h
    rotate_left
    · cases h
    cases h
    obtain ⟨y, ys, rfl, hy, hs1⟩ := g_ca hs
    replace hs := hs1
    have hy : y = .retAddr b := hy
    subst hy
    exact ⟨[], .int (Int32.ofNat L) :: ys, by simp only [q_scr]; rw [if_pos trivial], by simpa using hk, by simpa using hB, by simpa using hS, ⟨_, rfl, by rw [g_len hL]; exact ⟨L, g_0_ext h0, by show (L : Int) = L + 0; omega⟩⟩, by simpa using hs⟩
  · cases h
end
section
section GFIN
variable {G : q_G} {b L : Nat} {xs : Nat → Int32} {ML : q_MI} {P : Int32 → q_M → Prop}
theorem q_Kt_step {M : q_MI} {pc pc1 : Nat} {l l1 : q_L} {st st1 : List Value} {m m1 : q_M} {fs : List q_Fr} (hr : fs ≠ [] → ∀ n, q_run G (n + 1) M pc l st m = q_run G n M pc1 l1 st1 m1) (hl : fs = [] → ∀ n, q_lrun G b L xs ML (n + 1) pc l st m = q_lrun G b L xs ML n pc1 l1 st1 m1)
    (h : q_Kt G b L xs ML P ((M, pc1, l1, st1) :: fs) none m1) : q_Kt G b L xs ML P ((M, pc, l, st) :: fs) none m := by
  cases fs with
  | nil =>
    obtain ⟨n, v, qF, h1, h2⟩ := h
    exact ⟨n + 1, v, qF, (hl rfl n).trans h1, h2⟩
  | cons f fs =>
    obtain ⟨n, r1, m2, h1, h2⟩ := h
    exact ⟨n + 1, r1, m2, (hr (by simp) n).trans h1, h2⟩
theorem q_Kt_call {M M1 : q_MI} {pc pc1 : Nat} {l lv : q_L} {st rest : List Value} {m : q_M} {fs : List q_Fr}
    (hr : fs ≠ [] → ∀ n r m1, q_run G n M1 0 lv [] m = some (r, m1) → q_run G (n + 1) M pc l st m = q_run G n M pc1 l (r.toList ++ rest) m1) (hl : fs = [] → ∀ n r m1, q_run G n M1 0 lv [] m = some (r, m1) → q_lrun G b L xs ML (n + 1) pc l st m = q_lrun G b L xs ML n pc1 l (r.toList ++ rest) m1)
    (h : q_Kt G b L xs ML P ((M1, 0, lv, []) :: (M, pc1, l, rest) :: fs) none m) : q_Kt G b L xs ML P ((M, pc, l, st) :: fs) none m := by
  obtain ⟨n, r, m1, h1, h2⟩ := h
  cases fs with
  | nil =>
    obtain ⟨n2, v, qF, h3, h4⟩ := h2
    have e1 := q_fuel n (n + n2) _ _ _ _ _ _ (by omega) h1
    have e2 := q_lfuel n2 (n + n2) _ _ _ _ _ (by omega) h3
    exact ⟨n + n2 + 1, v, qF, (hl rfl _ _ _ e1).trans e2, h4⟩
  | cons f fs =>
    obtain ⟨n2, r2, m2, h3, h4⟩ := h2
    have e1 := q_fuel n (n + n2) _ _ _ _ _ _ (by omega) h1
    have e2 := q_fuel n2 (n + n2) _ _ _ _ _ _ (by omega) h3
    exact ⟨n + n2 + 1, r2, m2, (hr (by simp) _ _ _ e1).trans e2, h4⟩
theorem q_Kt_ret {M M2 : q_MI} {pc pc2 : Nat} {l l2 : q_L} {st st2 : List Value} {m : q_M} {r : Option Value} {fs : List q_Fr} (hr : q_run G 1 M pc l st m = some (r, m)) (h : q_Kt G b L xs ML P ((M2, pc2, l2, r.toList ++ st2) :: fs) none m) : q_Kt G b L xs ML P ((M, pc, l, st) :: (M2, pc2, l2, st2) :: fs) none m := by
  refine ⟨1, r, m, hr, ?_⟩
  cases fs with
  | nil => exact h
  | cons f fs => exact h
theorem g_nxt {M : q_MI} {tl : List q_I} {fs : List a_F} {S : List (a_N × a_N)} {m : List a_C} : ∀ {ps : List a_P} {Ks : List a_K}, a_nxt M tl fs S m ps = some Ks → ∀ p ∈ ps, ∃ c, a_at M tl p.2.2.1 = some c ∧ ((p.1, p.2.1, S, (M, c, p.2.2.2.1, p.2.2.2.2) :: fs, m) : a_K) ∈ Ks
  | [], Ks, h, p, hp => by cases hp
  | q :: ps, Ks, h, p, hp => by
    unfold a_nxt at h
    split at h
    · rename_i c l h1 h2
      cases h
      rcases List.mem_cons.mp hp with rfl | hp
      · exact ⟨c, h1, List.mem_cons_self⟩
      · obtain ⟨c2, e1, e2⟩ := g_nxt h2 p hp
        exact ⟨c2, e1, List.mem_cons_of_mem _ e2⟩
    · cases h
theorem g_last {α : Type} {P : α → Prop} {f g : α} {fs : List α} (h : ∀ z, (f :: fs).getLast? = some z → P z) (hg : fs = [] → P f → P g) : ∀ z, (g :: fs).getLast? = some z → P z := by
  intro z hz
  cases fs with
  | nil =>
    simp at hz
    subst hz
    exact hg rfl (h f (by simp))
  | cons a fs =>
    refine h z ?_
    rw [List.getLast?_cons_cons] at hz ⊢
    exact hz
theorem g_step {mx ml : Nat} (hsG : ∀ M ∈ q_gM G, q_srt (q_mC M) = true) {K : a_K} {Ks : List a_K} (h : a_step G mx ml K = some Ks) {v : List Int} {ps : List q_Fr} {m : q_M} (hK : g_K ML b L xs v K ps m) :
    q_Kt G b L xs ML (fun z qF => z = 1 ∧ qF.length ≤ mx ∧ q_sl qF ≤ ml) ps none m ∨ ∃ K1 ∈ Ks, ∃ (v1 : List Int) (ps1 : List q_Fr) (m1 : q_M), g_K ML b L xs v1 K1 ps1 m1 ∧ (q_Kt G b L xs ML (fun z qF => z = 1 ∧ qF.length ≤ mx ∧ q_sl qF ≤ ml) ps1 none m1 → q_Kt G b L xs ML (fun z qF => z = 1 ∧ qF.length ≤ mx ∧ q_sl qF ≤ ml) ps none m) := by
  obtain ⟨k, B, S, fs0, ma⟩ := K
  obtain ⟨hk, hB, hS, hF, hM, h0, hL, hlast⟩ := hK
  simp only at hk hB hS hF hM
  unfold a_step at h
  split at h
  · cases h
  · cases h
  rename_i k' B' S' M pc raw len i pos tl la sa fs ma' heq
  cases heq
  obtain ⟨p0, pfs, rfl, hf, hfs⟩ := g_ca hF
  obtain ⟨M0, pc0, l, st⟩ := p0
  obtain ⟨e1, hsrt, ⟨J, jl, e2, e3, hsuf⟩, hl, hs⟩ := hf
  simp only at e1 e2 e3 hsrt hsuf hl hs
  subst e1
  cases e2
  simp only at e3
  subst e3
  have hfd := q_fd_suf hsrt hsuf
  simp only at hfd
  have htl : tl <:+ q_mC M := (List.suffix_cons _ tl).trans hsuf
  have hlen : fs.length = pfs.length := g_2_len hfs
  have hnil : pfs = [] → fs = [] := fun q => by rw [q] at hlen; exact List.eq_nil_of_length_eq_zero hlen
  have hnil2 : fs = [] → pfs = [] := fun q => by rw [q] at hlen; exact List.eq_nil_of_length_eq_zero hlen.symm
  have hML : pfs = [] → M = ML := fun q => by
    subst q
    exact hlast (M, pc, l, st) (by simp)
  have hfdL : pfs = [] → q_fd (q_mC ML) pc = some (pc, raw, len, i, pos) := fun q => by rw [← hML q]; exact hfd
  split at h
  · -- pure
    rename_i hg
    split at h
    rotate_left
    · cases h
    rename_i ps1 hp
    obtain ⟨p, hpm, t, l1, st1, r1, r2, r3, r4, r5⟩ := g_pure hp hk hB hl hs
    obtain ⟨c, c1, c2⟩ := g_nxt h p hpm
    obtain ⟨J1, jl1, d1, d2, d3⟩ := a_at_ok c1 htl
    refine Or.inr ⟨_, c2, v ++ t, (M, p.2.2.1, l1, st1) :: pfs, m, ⟨r2, r3, g_S_ext hS, ⟨⟨rfl, hsrt, ⟨J1, jl1, d1, d2, d3⟩, r4, r5⟩, g_2_mono (fun _ _ => g_F_ext) hfs⟩, g_M_ext hM, g_0_ext h0, hL, g_last hlast (fun _ q => q)⟩, q_Kt_step (fun _ n => ?_) (fun q n => ?_)⟩
    · conv => lhs; unfold q_run
      simp only [hfd, hg, r1]
    · have e := hML q
      subst e
      conv => lhs; unfold q_lrun
      simp only [hfd, hg, r1]
  · -- memory, or the script
    rename_i hg
    split at h
    rotate_left
    · cases h
    rename_i c c1
    obtain ⟨J1, jl1, d1, d2, d3⟩ := a_at_ok c1 htl
    split at h
    · -- the law
      have hp0 := hnil2 rfl
      subst hp0
      split at h
      rotate_left
      · cases h
      rename_i k1 B1 S1 st1a hp
      cases h
      obtain ⟨t, st1, r1, r2, r3, r4, r5⟩ := g_scr hp hk hB hS h0 hL hs
      refine Or.inr ⟨_, List.mem_singleton.mpr rfl, v ++ t, [(M, pc + len, l, st1)], m, ⟨r2, r3, r4, ⟨⟨rfl, hsrt, ⟨J1, jl1, d1, d2, d3⟩, g_L_ext hl, r5⟩, trivial⟩, g_M_ext hM, g_0_ext h0, hL, g_last hlast (fun _ q => q)⟩, q_Kt_step (fun q => absurd rfl q) (fun q n => ?_)⟩
      have e := hML q
      subst e
      conv => lhs; unfold q_lrun
      simp only [hfd, hg, r1]
    · rename_i f1 fs1
      split at h
      rotate_left
      · cases h
      rename_i ps1 hp
      cases h
      obtain ⟨p, hpm, t, st1, m1, r1, r2, r3, r4, r5⟩ := g_mem hp hk hB hs hM
      refine Or.inr ⟨_, List.mem_map.mpr ⟨p, hpm, rfl⟩, v ++ t, (M, pc + len, l, st1) :: pfs, m1, ⟨r2, r3, g_S_ext hS, ⟨⟨rfl, hsrt, ⟨J1, jl1, d1, d2, d3⟩, g_L_ext hl, r4⟩, g_2_mono (fun _ _ => g_F_ext) hfs⟩, r5, g_0_ext h0, hL, g_last hlast (fun _ q => q)⟩, q_Kt_step (fun _ n => ?_) (fun q n => ?_)⟩
      · conv => lhs; unfold q_run
        simp only [hfd, hg, r1]
      · exact absurd (hnil q) (by simp)
  · -- a new cell
    rename_i hg
    split at h
    rotate_left
    · cases h
    rename_i c st1a x c1 hp
    cases h
    obtain ⟨J1, jl1, d1, d2, d3⟩ := a_at_ok c1 htl
    obtain ⟨st1, y, r1, r2, r3⟩ := g_cel hp hB hs hM
    refine Or.inr ⟨_, List.mem_singleton.mpr rfl, v, (M, pc + len, l, st1) :: pfs, m ++ [y], ⟨hk, hB, hS, ⟨⟨rfl, hsrt, ⟨J1, jl1, d1, d2, d3⟩, hl, r2⟩, hfs⟩, g_2_app hM ⟨r3, trivial⟩, h0, hL, g_last hlast (fun _ q => q)⟩, q_Kt_step (fun _ n => ?_) (fun q n => ?_)⟩
    · conv => lhs; unfold q_run
      simp only [hfd, hg, r1]
    · have e := hML q
      subst e
      conv => lhs; unfold q_lrun
      simp only [hfd, hg, r1]
  · -- call or return
    rename_i hg
    split at h
    · rename_i j hj
      split at h
      rotate_left
      · cases h
      rename_i c M1 as rest c1 hp
      split at h
      rotate_left
      · cases h
      rename_i c2 hc2
      cases h
      obtain ⟨J1, jl1, d1, d2, d3⟩ := a_at_ok c1 htl
      obtain ⟨J2, jl2, d4, d5, d6⟩ := a_at_ok hc2 (List.suffix_refl _)
      obtain ⟨vs, rs, r1, r2, r3, r4⟩ := g_call hp hs hM
      refine Or.inr ⟨_, List.mem_singleton.mpr rfl, v, (M1, 0, lv_args 0 vs, []) :: (M, pc + len, l, rs) :: pfs, m, ⟨hk, hB, hS, ⟨⟨rfl, hsG M1 (List.mem_of_getElem? r4), ⟨J2, jl2, d4, d5, d6⟩, g_lvs 0 r2, trivial⟩, ⟨rfl, hsrt, ⟨J1, jl1, d1, d2, d3⟩, hl, r3⟩, hfs⟩, hM, h0, hL, fun z hz => ?_⟩, q_Kt_call (fun _ n r m1 hr => ?_) (fun q n r m1 hr => ?_)⟩
      · rw [List.getLast?_cons_cons] at hz
        exact g_last (P := fun f : q_Fr => f.1 = ML) (g := (M, pc + len, l, rs)) hlast (fun _ q => q) z hz
      · conv => lhs; unfold q_run
        simp only [hfd, hg, hj, r1, hr]
      · have e := hML q
        subst e
        conv => lhs; unfold q_lrun
        simp only [hfd, hg, hj, r1, hr]
    · rename_i hj
      split at h
      · have hp0 := hnil2 rfl
        subst hp0
        split at h
        rotate_left
        · cases h
        rename_i x
        split at h
        rotate_left
        · cases h
        rename_i hc
        obtain ⟨y, ys, rfl, hy, hs1⟩ := g_ca hs
        replace hs := hs1
        have := g_na hs
        subst this
        obtain ⟨w, rfl, hy⟩ := hy
        have hi := g_iv hB (x := (false, x)) hy (g_o32 w)
        have hw : w = 1 := Int32.toInt_inj.mp (by rw [show (1 : Int32).toInt = 1 by decide]; omega)
        left
        refine ⟨1, w, m, ?_, hw, by rw [← g_2_len hM]; exact hc.2.2.1, by rw [← g_sl hM]; exact hc.2.2.2⟩
        have e := hML rfl
        subst e
        show q_lrun G b L xs M 1 pc l [.int w] m = _
        unfold q_lrun
        simp only [hfd, hg, hj]
      · rename_i M2 c2 l2 st2 fs2
        split at h
        rotate_left
        · cases h
        rename_i ra hr
        cases h
        obtain ⟨q0, qs, rfl, hf2, hfs2⟩ := g_ca hfs
        obtain ⟨M3, pc3, l3, st3⟩ := q0
        obtain ⟨e1, hsrt2, hcd2, hl2, hs2⟩ := hf2
        simp only at e1 hsrt2 hcd2 hl2 hs2
        subst e1
        obtain ⟨r, r1, r2⟩ := g_ret hr hB hs
        refine Or.inr ⟨_, List.mem_singleton.mpr rfl, v, (M2, pc3, l3, r.toList ++ st3) :: qs, m, ⟨hk, hB, hS, ⟨⟨rfl, hsrt2, hcd2, hl2, g_2_app r2 hs2⟩, hfs2⟩, hM, h0, hL, fun z hz => ?_⟩, q_Kt_ret ?_⟩
        · refine g_last (P := fun f : q_Fr => f.1 = ML) (f := (M2, pc3, l3, st3)) (g := (M2, pc3, l3, r.toList ++ st3)) (fun z hz => hlast z (by rw [List.getLast?_cons_cons]; exact hz)) (fun _ q => q) z hz
        · unfold q_run
          simp only [hfd, hg, hj, r1]
  · -- a constant
    rename_i hg0 hg1 hg2 hg3
    split at h
    rotate_left
    · cases h
    rename_i c st1a c1 hp
    cases h
    obtain ⟨J1, jl1, d1, d2, d3⟩ := a_at_ok c1 htl
    obtain ⟨st1, r1, r2⟩ := g_lk hp hs
    refine Or.inr ⟨_, List.mem_singleton.mpr rfl, v, (M, pc + len, l, st1) :: pfs, m, ⟨hk, hB, hS, ⟨⟨rfl, hsrt, ⟨J1, jl1, d1, d2, d3⟩, hl, r2⟩, hfs⟩, hM, h0, hL, g_last hlast (fun _ q => q)⟩, q_Kt_step (fun _ n => ?_) (fun q n => ?_)⟩
    · conv => lhs; unfold q_run
      simp only [hfd, r1]
    · have e := hML q
      subst e
      conv => lhs; unfold q_lrun
      simp only [hfd, r1]
theorem g_run {mx ml : Nat} (hsG : ∀ M ∈ q_gM G, q_srt (q_mC M) = true) : ∀ (n : Nat) (K : a_K), a_run G mx ml n K = true → ∀ (v : List Int) (ps : List q_Fr) (m : q_M), g_K ML b L xs v K ps m → q_Kt G b L xs ML (fun z qF => z = 1 ∧ qF.length ≤ mx ∧ q_sl qF ≤ ml) ps none m
  | 0, K, h, _, _, _, _ => by cases h
  | n + 1, K, h, v, ps, m, hK => by
    have h : (match a_step G mx ml K with | none => false | some [] => true | some [K1] => a_run G mx ml n K1 | some Ks => Ks.all (a_run G mx ml n)) = true := h
    obtain ⟨Ks, hs, h⟩ : ∃ Ks, a_step G mx ml K = some Ks ∧ Ks.all (a_run G mx ml n) = true := by
      split at h
      · cases h
      · rename_i hs
        exact ⟨_, hs, rfl⟩
      · rename_i hs
        exact ⟨_, hs, by simpa using h⟩
      · rename_i hs
        exact ⟨_, hs, h⟩
    rcases g_step hsG hs hK with h1 | ⟨K1, hm, v1, ps1, m1, hK1, hgo⟩
    · exact h1
    · exact hgo (g_run hsG n K1 (List.all_eq_true.mp h K1 hm) v1 ps1 m1 hK1)
end GFIN
end
section
/-! a front of states, all gone on by so many steps -/
def a_one (G : q_G) (mx ml : Nat) : List a_K → Option (List a_K)
  | [] => some []
  | K :: Ks => match a_step G mx ml K, a_one G mx ml Ks with
    | some l, some r => some (l ++ r)
    | _, _ => none
noncomputable def a_fr (G : q_G) (mx ml : Nat) (n : Nat) : List a_K → Option (List a_K) := Nat.rec (motive := fun _ => List a_K → Option (List a_K)) (fun Ks => some Ks) (fun _ ih Ks => match a_one G mx ml Ks with
  | some Ks1 => ih Ks1
  | none => none) n
section GFR
variable {G : q_G} {b L : Nat} {xs : Nat → Int32} {ML : q_MI} {mx ml : Nat}
def g_Good (G : q_G) (ML : q_MI) (b L : Nat) (xs : Nat → Int32) (mx ml : Nat) (K : a_K) : Prop := ∀ (v : List Int) (ps : List q_Fr) (m : q_M), g_K ML b L xs v K ps m → q_Kt G b L xs ML (fun z qF => z = 1 ∧ qF.length ≤ mx ∧ q_sl qF ≤ ml) ps none m
theorem g_one (hsG : ∀ M ∈ q_gM G, q_srt (q_mC M) = true) : ∀ {Ks Ks1 : List a_K}, a_one G mx ml Ks = some Ks1 → (∀ K ∈ Ks1, g_Good G ML b L xs mx ml K) → ∀ K ∈ Ks, g_Good G ML b L xs mx ml K
  | [], _, _, _, K, hK => by cases hK
  | K0 :: Ks, Ks1, h, hg, K, hK => by
    unfold a_one at h
    split at h
    rotate_left
    · cases h
    rename_i l r h1 h2
    cases h
    rcases List.mem_cons.mp hK with rfl | hK
    · intro v ps m hk
      rcases g_step hsG h1 hk with h3 | ⟨K1, hm, v1, ps1, m1, hK1, hgo⟩
      · exact h3
      · exact hgo (hg K1 (List.mem_append_left _ hm) v1 ps1 m1 hK1)
    · exact g_one hsG h2 (fun z hz => hg z (List.mem_append_right _ hz)) K hK
theorem g_fr (hsG : ∀ M ∈ q_gM G, q_srt (q_mC M) = true) : ∀ (n : Nat) {Ks Ks1 : List a_K}, a_fr G mx ml n Ks = some Ks1 → (∀ K ∈ Ks1, g_Good G ML b L xs mx ml K) → ∀ K ∈ Ks, g_Good G ML b L xs mx ml K
  | 0, Ks, Ks1, h, hg => by
    cases h
    exact hg
  | n + 1, Ks, Ks1, h, hg => by
    have h : (match a_one G mx ml Ks with | some Ks2 => a_fr G mx ml n Ks2 | none => none) = some Ks1 := h
    split at h
    rotate_left
    · cases h
    rename_i Ks2 h1
    exact g_one hsG h1 (g_fr hsG n h hg)
theorem g_fr' (hsG : ∀ M ∈ q_gM G, q_srt (q_mC M) = true) {n k : Nat} {Ks F : List a_K} (hF : a_fr G mx ml n Ks = some F) (hlen : F.length ≤ k) (hg : ∀ j, j < k → ∀ K, F[j]? = some K → g_Good G ML b L xs mx ml K) : ∀ K ∈ Ks, g_Good G ML b L xs mx ml K := by
  refine g_fr hsG n hF (fun K hK => ?_)
  obtain ⟨j, hj⟩ := List.getElem?_of_mem hK
  exact hg j (Nat.lt_of_lt_of_le (List.getElem?_eq_some_iff.mp hj).1 hlen) K hj
end GFR
end
section
def t_K0 : a_K := (1, [(0, 0, 6)], [], [(q_mLaw, q_cL, [(0, .inr (.inr ()))], [])], [])
noncomputable def t_F : List a_K := (a_fr q_D 600000 7302250 824 [t_K0]).getD []
def t_pcs (Ks : List a_K) : List Nat := Ks.map (fun K => match K.2.2.2.1 with
      | (_, (pc, _) :: _, _) :: fs => pc + 10000 * fs.length
      | _ => 5)
theorem t_F_some : (a_fr q_D 600000 7302250 824 [t_K0]).isSome = true := by decide +kernel
theorem t_F_len : t_F.length ≤ 74 := by decide +kernel
theorem t_F_len2 : 74 ≤ t_F.length := by decide +kernel
end
section
noncomputable def t_go (j : Nat) : Bool := match t_F[j]? with
  | some K => a_run q_D 600000 7302250 9000 K
  | none => false
theorem t_g0 : ([1, 3, 4, 5, 6, 7, 8, 9, 10, 11] : List Nat).all t_go = true := by decide +kernel
theorem t_g1 : ([12, 13, 14, 15, 16, 17, 18, 19, 20, 21] : List Nat).all t_go = true := by decide +kernel
theorem t_g2 : ([22, 23, 24, 25, 26, 27, 28, 29, 30, 31] : List Nat).all t_go = true := by decide +kernel
theorem t_g3 : ([32, 33, 34, 35, 36, 37, 38, 39, 40, 41] : List Nat).all t_go = true := by decide +kernel
theorem t_g4 : ([42, 43, 44, 45, 46, 47, 48, 49, 50, 51] : List Nat).all t_go = true := by decide +kernel
theorem t_g5 : ([52, 53, 54, 55, 56, 57, 58, 59, 60, 61] : List Nat).all t_go = true := by decide +kernel
theorem t_g6 : ([62, 63, 64, 65, 66, 67, 69, 71, 72, 73] : List Nat).all t_go = true := by decide +kernel
theorem t_h0 : t_go 0 = true := by decide +kernel
theorem t_h2 : t_go 2 = true := by decide +kernel
theorem t_h70 : t_go 70 = true := by decide +kernel
end
section
noncomputable def t_G : List a_K := match t_F[68]? with
  | some K => (a_fr q_D 600000 7302250 400 [K]).getD []
  | none => []
theorem t_G_some : (match t_F[68]? with | some K => (a_fr q_D 600000 7302250 400 [K]).isSome | none => false) = true := by decide +kernel
theorem t_G_len : t_G.length = 3 := by decide +kernel
noncomputable def t_gi (j : Nat) : Bool := match t_G[j]? with
  | some K => a_run q_D 600000 7302250 9000 K
  | none => false
end
section
theorem t_i0 : t_gi 0 = true := by decide +kernel
end
section
theorem t_i1 : t_gi 1 = true := by decide +kernel
end
section
theorem t_i2 : t_gi 2 = true := by decide +kernel
end
section
theorem q_tat_lw {pos : Nat} {w : Cond} (h : q_tat q_D pos = some w) : w ∈ lw_tbl := by
  unfold q_tat at h
  split at h
  · rename_i l hl
    have h1 : w ∈ (q_gT q_D).flatten := List.mem_flatten.mpr ⟨l, List.mem_of_getElem? hl, List.mem_of_getElem? h⟩
    simpa [q_gT, q_D, q_dT, lw_tbl, tables_1] using h1
  · cases h
theorem q_nestT : ∀ z ∈ q_gN q_D, Cond.methodLinkNest z.1 z.2.1 z.2.2.1 z.2.2.2 ∈ lw_tbl := by
  intro z hz
  have h : q_dN.map (fun z => Cond.methodLinkNest z.1 z.2.1 z.2.2.1 z.2.2.2) = ([1030, 1077, 1230, 2049, 3145, 4036, 4156, 5170] : List Nat).filterMap (fun i => q_tat q_D i) := by decide +kernel
  have h1 : Cond.methodLinkNest z.1 z.2.1 z.2.2.1 z.2.2.2 ∈ q_dN.map (fun z => Cond.methodLinkNest z.1 z.2.1 z.2.2.1 z.2.2.2) := List.mem_map.mpr ⟨z, hz, rfl⟩
  rw [h] at h1
  obtain ⟨i, -, hi⟩ := List.mem_filterMap.mp h1
  exact q_tat_lw hi
theorem q_tyT : ∀ (t : Nat) (ty : FieldType), (q_gA q_D)[t]? = some ty → ((∀ C, ty ≠ .object C) ∧ Cond.arrayClass ty ∈ q_T q_D) ∨ ∃ C, ty = .object C ∧ Cond.arrayOver (.object C) ∈ lw_tbl := by
  intro t ty h
  match t, h with
  | 0, h => cases h; exact Or.inl ⟨(fun C q => by cases q), q_T_at (pos := 1182) (by decide +kernel) rfl⟩
  | 1, h => cases h; exact Or.inl ⟨(fun C q => by cases q), q_T_at (pos := 2068) (by decide +kernel) rfl⟩
  | 2, h => cases h; exact Or.inl ⟨(fun C q => by cases q), q_T_at (pos := 1044) (by decide +kernel) rfl⟩
  | 3, h => cases h; exact Or.inl ⟨(fun C q => by cases q), q_T_at (pos := 6206) (by decide +kernel) rfl⟩
  | 4, h => cases h; exact Or.inr ⟨_, rfl, q_tat_lw (pos := 1183) (by decide +kernel)⟩
  | 5, h => cases h; exact Or.inr ⟨_, rfl, q_tat_lw (pos := 1185) (by decide +kernel)⟩
  | t + 6, h => simp [q_gA, q_D, q_dA] at h
set_option maxRecDepth 100000 in
theorem q_srtAll0 : (q_gM q_D).all (fun M => q_srt (q_mC M)) = true := by decide +kernel
theorem q_srtAll : ∀ M ∈ q_gM q_D, q_srt (q_mC M) = true := fun M h => List.all_eq_true.mp q_srtAll0 M h
set_option maxRecDepth 100000 in
theorem q_srtL : q_srt (q_mC q_mLaw) = true := by decide +kernel
end
section
theorem t_all_go {l : List Nat} (h : l.all t_go = true) {j : Nat} (hj : j ∈ l) : t_go j = true := List.all_eq_true.mp h j hj
theorem t_go_all (j : Nat) (hj : j < 74) (h68 : j ≠ 68) : t_go j = true := by
  have hm : j ∈ ([1, 3, 4, 5, 6, 7, 8, 9, 10, 11] ++ ([12, 13, 14, 15, 16, 17, 18, 19, 20, 21] ++ ([22, 23, 24, 25, 26, 27, 28, 29, 30, 31] ++ ([32, 33, 34, 35, 36, 37, 38, 39, 40, 41] ++ ([42, 43, 44, 45, 46, 47, 48, 49, 50, 51] ++ ([52, 53, 54, 55, 56, 57, 58, 59, 60, 61] ++ ([62, 63, 64, 65, 66, 67, 69, 71, 72, 73] ++ [0, 2, 70])))))) : List Nat) := by
    simp only [List.cons_append, List.nil_append, List.mem_cons, List.not_mem_nil, or_false]
    omega
  rcases List.mem_append.mp hm with h | hm
  · exact t_all_go t_g0 h
  rcases List.mem_append.mp hm with h | hm
  · exact t_all_go t_g1 h
  rcases List.mem_append.mp hm with h | hm
  · exact t_all_go t_g2 h
  rcases List.mem_append.mp hm with h | hm
  · exact t_all_go t_g3 h
  rcases List.mem_append.mp hm with h | hm
  · exact t_all_go t_g4 h
  rcases List.mem_append.mp hm with h | hm
  · exact t_all_go t_g5 h
  rcases List.mem_append.mp hm with h | hm
  · exact t_all_go t_g6 h
  simp only [List.mem_cons, List.not_mem_nil, or_false] at hm
  rcases hm with rfl | rfl | rfl
  · exact t_h0
  · exact t_h2
  · exact t_h70
theorem t_gi_all (j : Nat) (hj : j < 3) : t_gi j = true := by
  have h : j = 0 ∨ j = 1 ∨ j = 2 := by omega
  rcases h with rfl | rfl | rfl
  · exact t_i0
  · exact t_i1
  · exact t_i2
theorem t_get {α : Type} {o : Option α} {d : α} (h : o.isSome = true) : o = some (o.getD d) := by
  cases o with
  | none => cases h
  | some x => rfl
section TE
variable {b L : Nat} {xs : Nat → Int32}
theorem t_good_gi (j : Nat) (hj : j < 3) (K : a_K) (hK : t_G[j]? = some K) : g_Good q_D q_mLaw b L xs 600000 7302250 K := by
  have h := t_gi_all j hj
  unfold t_gi at h
  rw [hK] at h
  exact fun v ps m hk => g_run q_srtAll 9000 K h v ps m hk
theorem t_good_68 (K : a_K) (hK : t_F[68]? = some K) : g_Good q_D q_mLaw b L xs 600000 7302250 K := by
  have hs := t_G_some
  rw [hK] at hs
  have hG : t_G = (a_fr q_D 600000 7302250 400 [K]).getD [] := by
    unfold t_G
    rw [hK]
  have hF : a_fr q_D 600000 7302250 400 [K] = some t_G := by
    rw [hG]
    exact t_get hs
  exact g_fr' q_srtAll hF (Nat.le_of_eq t_G_len) t_good_gi K List.mem_cons_self
theorem t_good_j (j : Nat) (hj : j < 74) (K : a_K) (hK : t_F[j]? = some K) : g_Good q_D q_mLaw b L xs 600000 7302250 K := by
  by_cases h68 : j = 68
  · subst h68
    exact t_good_68 K hK
  · have h := t_go_all j hj h68
    unfold t_go at h
    rw [hK] at h
    exact fun v ps m hk => g_run q_srtAll 9000 K h v ps m hk
theorem t_good0 : g_Good q_D q_mLaw b L xs 600000 7302250 t_K0 :=
  g_fr' q_srtAll (k := 74) (F := t_F) (t_get t_F_some) t_F_len t_good_j t_K0 List.mem_cons_self
end TE
theorem law_ends (b L : Nat) (xs : Nat → Int32) (hL : L ≤ 6) : ∃ n v qF, q_lrun q_D b L xs q_mLaw n 0 [(0, .retAddr b)] [] [] = some (v, qF) ∧ v = 1 ∧ qF.length ≤ 600000 ∧ q_sl qF ≤ 7302250 := by
  have hc : ∃ J l, q_cL = J :: l ∧ J.1 = 0 := ⟨_, _, rfl, rfl⟩
  have hk : g_K q_mLaw b L xs [(L : Int)] t_K0 [(q_mLaw, 0, [(0, .retAddr b)], [])] [] := by
    refine ⟨rfl, ?_, ?_, ⟨⟨rfl, q_srtL, ?_, ?_, ?_⟩, trivial⟩, ?_, rfl, by omega, ?_⟩
    · intro q hq
      simp only [t_K0, List.mem_cons, List.not_mem_nil, or_false] at hq
      subst hq
      exact ⟨L, rfl, by simp, by simpa using (show (L : Int) ≤ 6 by omega)⟩
    · intro q hq
      cases hq
    · obtain ⟨J, l, h1, h2⟩ := hc
      exact ⟨J, l, h1, h2, List.suffix_refl _⟩
    · exact ⟨⟨rfl, rfl⟩, trivial⟩
    · trivial
    · trivial
    · intro f hf
      cases hf
      rfl
  exact t_good0 [(L : Int)] [(q_mLaw, 0, [(0, .retAddr b)], [])] [] hk
end
section
/-! THE CLAIM OUT OF ONE WALK OF THE LAW'S BODY. Your part is whole_start (and what it stands on); all else here is the same for every law, but numbers. -/
def R_law : String := "SisterCountLaw"
def lw_P (b : Addr) (xs : List Int32) (args : Array Value) (s : State) : Prop := args = #[.ref b] ∧ s.IntsAt b xs ∧ xs.length ≤ 6 ∧ (Jvm.Cond.and given_1 narrow_1).before args s = true
def lw_Q (_ : Array Value) (s : State) (o : Outcome) (t : State) : Prop := o = .returned (some (.int 1)) ∧ Framed s o t [] 600000 7302250
def lw_Z (below : List Frame) (a : Array Value) (s : State) : State → Prop := fun t => ∃ o, t.status = .running ∧ Ended t below o ∧ lw_Q a s o t
/-- the law's own end, with 1 on the stack, nothing written that was there before, its room as the claim has it -/
theorem lw_ret {p : Program} {l : Launch} {e : Env} {s : State} {m : MethodId} {below : List Frame} {meth : Method} {c : Code} {b : Nat} (hx : p.tables.exec = Jvm.exec) (hb : c.code = code) (hr : meth.sig.returnType = ret) (hlocks : meth.locks = false) {pc : Nat} {H : Heap} {ls : Array Slot} (hdg : decode code pc = .ok (.ireturn, 1)) : W p l e room_1 s m #[Value.ref b] below meth c H [] 600000 7302250 (lw_Z below #[Value.ref b] s) (F0 m pc ls [.int 1]) := by
  intro T hT X
  obtain ⟨fs, hret, hrun, hended, hW, hframe⟩ := X.leave (v := some (.int 1)) (hlocks := hlocks) (fun h => by rw [hr] at h; cases h)
  have hmeth' : T.vm.method? m = some meth := X.method'
  refine ⟨T.setFrames fs, ?_, .returned (some (.int 1)), hrun, hended, rfl, ⟨_, rfl⟩, hW, hframe⟩
  jvm_step X.here [X.here.top, hx, hb, hdg, hmeth', hr, ret, narrow_b1]
  (try refine ⟨rfl, ?_⟩); (try refine ⟨rfl, ?_⟩)
  first | (intro acts; rw [hret _ acts rfl rfl rfl]) | rw [hret _ _ rfl rfl rfl]
  exact Steps.refl _
/-- what holds at the law's entry: the machine, the code, the tables' words (any of lw_tbl by 'hts w (by decide +kernel)'), the script of L ints xs at the cell b, what the Statement gives of the start (any of its parts by flat_of_before) -/
def lw_At (p : Program) (s : State) (m : MethodId) (meth : Method) (c : Code) (b L : Nat) (xs : Nat → Int32) : Prop :=
  p.tables.exec = Jvm.exec ∧ c.code = code ∧ meth.sig.returnType = ret ∧ c.maxLocals = 4 ∧ s.vm.findClass R_law = some m.cls ∧ (∀ w ∈ lw_tbl, w.before #[Value.ref b] s = true) ∧ va_X b L xs s s.heap ∧ b < s.heap.size ∧ meth.locks = false ∧ (Jvm.Cond.and given_1 narrow_1).before #[Value.ref b] s = true
set_option maxHeartbeats 4000000 in
set_option maxRecDepth 100000 in
theorem whole_start {p : Program} {e : Env} {s : State} {m : MethodId} {below : List Frame} {meth : Method} {c : Code} (l : Launch) {b L : Nat} {xs : Nat → Int32} (hL : L ≤ 6) (C0 : lw_At p s m meth c b L xs) : W p l e room_1 s m #[Value.ref b] below meth c s.heap [] 0 0 (lw_Z below #[Value.ref b] s) (entryFrame m ([Value.ref b] : List Value).toArray 4) := by
  obtain ⟨hx, hb, hr, hml, hown, hts, hX, hbl, hlocks, hgv⟩ := id C0
  have htsT : ∀ w ∈ q_T q_D, w.before #[Value.ref b] s = true := fun w h => hts w (q_lwT w h)
  have hAO : ∀ (t : Nat) (C : String), (q_gA q_D)[t]? = some (.object C) → va_AO C s := fun t C h => by
    rcases q_tyT t _ h with h1 | ⟨C1, e, h1⟩
    · exact absurd rfl (h1.1 C)
    · cases e
      exact va_AO.of (hts _ h1)
  have hN : q_Nst q_D s := ⟨fun z hz => va_Nw.of rfl (hts _ (q_nestT z hz)), hAO⟩
  obtain ⟨D, tc, hK⟩ := q_start q_gv htsT (fun t ty h => by
    rcases q_tyT t ty h with h1 | ⟨C1, e, h1⟩
    · exact Or.inl h1
    · exact Or.inr ⟨C1, e, va_AO.of (hts _ h1)⟩)
  obtain ⟨n, v, qF, hrun, hv, hc1, hc2⟩ := law_ends b L xs hL
  subst hv
  have hl := lv_entry ([.ref b]) (n := 4) (Nat.le_of_ble_eq_true rfl)
  rw [lg_entry_eq]
  refine q_lmain (G := q_D) (D := D) (tc := tc) (bs := s.heap.size) (M := q_mLaw) (qF := qF) (v := 1) q_gv q_okAll (z_okC_ok q_okL) hx hb hml hown htsT hK hN rfl hX hbl rfl rfl hc1 hc2 ?_ n 0 [(0, .retAddr b)] [] [] hrun (fun k q h => by simp [q_cw] at h) va_S.rf hl
  intro pc H ls locs hd hS
  refine va_forget hS.2.2 ?_
  refine W.widen hc1 hc2 ?_
  exact lw_ret hx hb hr hlocks hd

set_option maxHeartbeats 4000000 in
theorem lw_walk (l : Launch) (b : Addr) (xs : List Int32) : MetFree l x (headSpec (Jvm.Cond.code x code maxLocals ret :: tables_1) room_1) (lw_P b xs) (fun _ _ _ _ _ => True) lw_Q := by
  refine MetFree.of_bodyS (code := code) (maxLocals := maxLocals) (ret := ret) (by decide) ?_ ?_
  · intro args s m h hn
    obtain ⟨meth, c, h1, h2, h3, h4, h5, h6, -, -⟩ := Cond.code_spec hn (atoms_spec (ws := Jvm.Cond.code x code maxLocals ret :: tables_1) h _ List.mem_cons_self)
    exact ⟨meth, c, h1, h2, h3, h4, h5, h6⟩
  · intro p e s m args below meth c s₁ B hml0 hP _
    obtain ⟨rfl, hx, hbd, hgv⟩ := hP
    obtain ⟨scr, harrAt, hlist, hof, hsmall⟩ := hx
    obtain ⟨hcb, hkn, -, -⟩ := State.arrayAt?_spec harrAt
    have hown : s.vm.findClass R_law = some m.cls := findClass_of_methodNamed B.named
    have hts0 : ∀ c ∈ (Jvm.Cond.code x code maxLocals ret :: tables_1), c.before #[Value.ref b] s = true := atoms_spec (ws := Jvm.Cond.code x code maxLocals ret :: tables_1) B.pre
    have hts : ∀ w ∈ lw_tbl, w.before #[Value.ref b] s = true := k2_hts_sels lw_privs (fun w hw => hts0 w (List.mem_cons_of_mem _ hw)) lw_privs_ok
    have hml : c.maxLocals = 4 := B.maxLocals_eq (hts0 _ List.mem_cons_self)
    have X₀ : Stand p l e room_1 s m #[Value.ref b] below meth c s₁ [] 0 0 := Stand.of_body B
    have hh0 : s₁.heap = s.heap := by rw [B.state]; rfl
    have hsz : scr.slots.size = xs.length := by rw [← Array.length_toList, hlist, List.length_map]
    have hval : ∀ j : Nat, j < xs.length → scr.slots[j]? = some (.int (xs.getD j 0)) := fun j hj => by
      rw [← Array.getElem?_toList, hlist]
      simp [hj]
    have hbl : b < s.heap.size := (Array.getElem?_eq_some_iff.mp hcb).1
    have hX : va_X b xs.length (fun j => xs.getD j 0) s s.heap := ⟨scr, hcb, hof, hkn, hsz, hval⟩
    have K : W p l e room_1 s m #[Value.ref b] below meth c s₁.heap [] 0 0 (lw_Z below #[Value.ref b] s) (entryFrame m ([Value.ref b] : List Value).toArray 4) := by
      rw [hh0]
      exact whole_start l hbd ⟨B.exec, B.bytes, B.returns, hml, hown, hts, hX, hbl, B.notSynchronized, hgv⟩
    obtain ⟨t, a1, o, b1, b2, b3⟩ := K s₁ rfl X₀
    exact ⟨t, o, a1, b1, b2, b3⟩
theorem lw_pre_spec {args : Array Value} {s : State} (h : (Jvm.Cond.and given_1 narrow_1).before args s = true) (hr : rest_1_c.before args s = true) : ∃ (b : Addr) (xs : List Int32), lw_P b xs args s := by
  have hs := flat_of_before _ h
  have hq := flat_of_before _ hr
  have hc : (Cond.count 1).before args s = true := hs _ (by decide +kernel)
  have harr : (Cond.arrayOf (.arg 0) .int).before args s = true := hs _ (by decide +kernel)
  have hle : (Cond.le (.length (.arg 0)) (.int 6)).before args s = true := hs _ (by decide +kernel)
  have hlen : (Cond.isInt (.length (.arg 0))).before args s = true := hq _ (by decide +kernel)
  have hall : (Cond.all (.arg 0) (.isInt (.elem (.arg 0) (.index 0)))).before args s = true := hq _ (by decide +kernel)
  obtain ⟨b, xs, hb, hx⟩ := State.ints_of_pre rfl harr hlen hall
  have hsm : xs.length < 2 ^ 31 := hx.choose_spec.2.2.2
  have hev : (Term.length (.arg 0)).eval args s none [] s = some (.int xs.length.toInt32) := hx.length_eval hb
  have hv := Cond.le_ints hev (show (Term.int 6).eval args s none [] s = some (.int 6) from rfl)
  have hd : xs.length.toInt32 ≤ 6 := by
    simpa [Cond.before, Cond.holds, hv] using hle
  have hN : xs.length ≤ 6 := (Int32.ofNat_le_ofNat hsm (by decide)).mp (show Int32.ofNat xs.length ≤ Int32.ofNat 6 from hd)
  exact ⟨b, xs, Cond.one_arg hc (show args[0]? = some (.ref b) from hb), hx, hN, h⟩
theorem lw_comes (l : Launch) : Comes l x (Jvm.Cond.code x code maxLocals ret :: tables_1) room_1 (fun tb e args s => Calls_1 tb e args s ∧ rest_1 tb e args s ∧ Pre_1 tb e args s)
    (fun _ _ args s o t => lw_Q args s o t) := by
  intro p e ha hc hk s m args below hf hfit hheap happ hpre
  obtain ⟨b, xs, hP⟩ := lw_pre_spec hpre.2.2 hpre.2.1
  obtain ⟨k, o, h1, h2, h3, hQ⟩ := lw_walk l b xs p e ha hc hk s m args below hf ((Spec.applies_iff_loose hf).mp happ).1 hP trivial
  exact ⟨k, o, h1, h2, h3, hQ⟩
theorem lw_frame {s t : State} {o : Outcome} {args : Array Value} (h : Framed s o t [] 600000 7302250) :
    Framed s o t (fieldLocs frame_1_writes args s ++ arrayLocs frame_1_arrays args s ++ staticLocs frame_1_statics s) 600000 7302250 := h
theorem lw_limb (L : Cond) (hL : ∀ (args : Array Value) (s t : State), L.after args s (.returned (some (.int 1))) t = true) :
    ArmFor flags0 classFile x code maxLocals ret World_1 tables_1 room_1 Calls_1 rest_1 Pre_1
      (fun tb e a s o t => postC L tb e a s o t ∧ Framed s o t (fieldLocs frame_1_writes a s ++ arrayLocs frame_1_arrays a s ++ staticLocs frame_1_statics s) 600000 7302250) := by
  intro l _ _ _ p e ha hc hk s m args below hf hfit hheap happ hpre
  obtain ⟨k, o, h1, h2, h3, rfl, hF⟩ := lw_comes l p e ha hc hk s m args below hf hfit hheap happ hpre
  exact ⟨k, _, h1, h2, h3, hL args s _, lw_frame hF⟩
theorem i_vc : Claimed_1_1 ∧ Claimed_1_2 := ⟨lw_limb limb_1_1 (fun args s t => by simp [limb_1_1, Cond.after, Cond.holds, Cond.value]), lw_limb limb_1_2 (fun args s t => Cond.after_iff.mpr (by
  first | (rw [show limb_1_2 = Cond.eq .result (.int 1) from rfl, Cond.eq_ints (x := 1) (y := 1) rfl rfl]; simp; done) | (simp [limb_1_2, Cond.value, Term.eval]; done)))⟩
end

section
/-! THE PURE MACHINE: cells by their number, a step as a function; refs are numbers of cells, the cell k lies at the address bs + k -/
abbrev q_A : Type := Nat × Nat × ((Nat → Int32) ⊕ (Nat → Int64) ⊕ (Nat → Option Nat))
abbrev q_E : Type := q_A ⊕ (Nat × List Value)
abbrev q_M : Type := List q_E
abbrev q_L : Type := List (Nat × Value)
def q_cv (bs : Nat) (v : Value) : Value := match v with
  | .ref k => .ref (bs + k)
  | .retAddr b => .ref b
  | v => v
def q_ce (bs : Nat) (tc : Nat → ClassId) (x : q_E) : va_E := match x with
  | .inl (t, n, .inl f) => .inl (tc t, n, .inl f)
  | .inl (t, n, .inr (.inl f)) => .inl (tc t, n, .inr (.inl f))
  | .inl (t, n, .inr (.inr f)) => .inl (tc t, n, .inr (.inr (.inr (.inr (fun j => (f j).map (fun k => bs + k))))))
  | .inr (ci, fs) => .inr (ci, fs.map (q_cv bs))
def q_cw (bs : Nat) (tc : Nat → ClassId) (m : q_M) : va_W := m.mapIdx (fun k x => (bs + k, q_ce bs tc x))
def q_cl (bs : Nat) (l : q_L) : q_L := l.map (fun q => (q.1, q_cv bs q.2))
def q_sz (x : q_E) : Nat := match x with
  | .inl (_, n, _) => n
  | .inr (_, fs) => fs.length
def q_sl (m : q_M) : Nat := (m.map q_sz).sum
theorem q_cv_cat (bs : Nat) (v : Value) : (q_cv bs v).category = v.category := by cases v <;> rfl
theorem q_cv_narrow (bs : Nat) (ty : FieldType) (v : Value) : narrow ty (q_cv bs v) = q_cv bs (narrow ty v) := by
  cases v <;> cases ty <;> rfl
theorem q_cv_fits (bs : Nat) (ty : FieldType) (v : Value) (h : fits ty v = true) : fits ty (q_cv bs v) = true := by
  cases v <;> cases ty <;> first | exact h | cases h
theorem q_cw_get {bs : Nat} {tc : Nat → ClassId} {m : q_M} {k : Nat} {x : q_E} (h : m[k]? = some x) : (q_cw bs tc m)[k]? = some (bs + k, q_ce bs tc x) := by
  simp [q_cw, h]
theorem q_cw_len {bs : Nat} {tc : Nat → ClassId} {m : q_M} : (q_cw bs tc m).length = m.length := by simp [q_cw]
theorem q_cw_set {bs : Nat} {tc : Nat → ClassId} {m : q_M} {k : Nat} {x : q_E} : (q_cw bs tc m).set k (bs + k, q_ce bs tc x) = q_cw bs tc (m.set k x) := by
  apply List.ext_getElem?
  intro i
  simp only [q_cw, List.getElem?_mapIdx, List.getElem?_set, List.length_mapIdx]
  by_cases h : k = i
  · subst h
    by_cases hl : k < m.length <;> simp [hl]
  · simp [h]
theorem q_cw_push {bs : Nat} {tc : Nat → ClassId} {m : q_M} {x : q_E} : q_cw bs tc m ++ [(bs + m.length, q_ce bs tc x)] = q_cw bs tc (m ++ [x]) := by
  simp [q_cw]
theorem q_cw_D {bs : Nat} {tc : Nat → ClassId} {m : q_M} : va_D (fun q => bs ≤ q) (q_cw bs tc m) := by
  refine ⟨fun i j x y hi hj hxy => ?_, fun k q hk => ?_⟩
  · simp only [q_cw, List.getElem?_mapIdx, Option.map_eq_some_iff] at hi hj
    obtain ⟨a, -, rfl⟩ := hi
    obtain ⟨b, -, rfl⟩ := hj
    simp only at hxy
    omega
  · simp only [q_cw, List.getElem?_mapIdx, Option.map_eq_some_iff] at hk
    obtain ⟨a, -, rfl⟩ := hk
    exact Nat.le_add_right _ _
/-- the heap holds the pure memory -/
abbrev q_Wd (D : va_G) (cl : List vw_C) (bs : Nat) (tc : Nat → ClassId) (m : q_M) (H : Heap) : Prop := va_P D cl (q_cw bs tc m) H
theorem q_sl_set {m : q_M} {k : Nat} {x y : q_E} (h : m[k]? = some x) (hs : q_sz y = q_sz x) : q_sl (m.set k y) = q_sl m := by
  have e : (m.set k y).map q_sz = m.map q_sz := by
    apply List.ext_getElem?
    intro i
    simp only [List.getElem?_map, List.getElem?_set]
    by_cases hk : k = i
    · subst hk
      have hl := (List.getElem?_eq_some_iff.mp h).1
      have e2 : m[k] = x := by
        rw [List.getElem?_eq_getElem hl] at h
        exact Option.some.inj h
      simp [hl, e2, hs]
    · simp [hk]
  simp [q_sl, e]
theorem q_sl_push (m : q_M) (x : q_E) : q_sl (m ++ [x]) = q_sl m + q_sz x := by simp [q_sl]
/-- locals -/
def q_get (l : q_L) (k : Nat) : Option Value := match l with
  | [] => none
  | q :: l => if q.1 = k then some q.2 else q_get l k
theorem q_get_mem : ∀ {l : q_L} {k : Nat} {v : Value}, q_get l k = some v → (k, v) ∈ l
  | [], k, v, h => by simp [q_get] at h
  | q :: l, k, v, h => by
    unfold q_get at h
    by_cases hk : q.1 = k
    · rw [if_pos hk] at h
      cases h
      subst hk
      exact List.mem_cons_self
    · rw [if_neg hk] at h
      exact List.mem_cons_of_mem _ (q_get_mem h)
def q_s1 (l : q_L) (i : Nat) (v : Value) : q_L := (i, v) :: l.filter (fun q => !(q.1 == i) && !(q.1 + 1 == i && q.2.category == 2))
def q_s2 (l : q_L) (i : Nat) (v : Value) : q_L := (i, v) :: l.filter (fun q => !(q.1 == i) && (!(q.1 == i + 1) && !(q.1 + 1 == i && q.2.category == 2)))
theorem q_cl_filter (bs : Nat) (P : Nat → Nat → Bool) : ∀ l : q_L, (q_cl bs l).filter (fun q => P q.1 q.2.category) = q_cl bs (l.filter (fun q => P q.1 q.2.category))
  | [] => rfl
  | q :: l => by
    have ih := q_cl_filter bs P l
    simp only [q_cl, List.map_cons, List.filter_cons, q_cv_cat] at ih ⊢
    by_cases h : P q.1 q.2.category = true
    · simp [h, ih]
    · simp [h, ih]
theorem q_cl_s1 (bs : Nat) (l : q_L) (i : Nat) (v : Value) : (i, q_cv bs v) :: (q_cl bs l).filter (fun q => !(q.1 == i) && !(q.1 + 1 == i && q.2.category == 2)) = q_cl bs (q_s1 l i v) := by
  rw [q_cl_filter bs (fun a b => !(a == i) && !(a + 1 == i && b == 2)) l]
  rfl
theorem q_cl_s2 (bs : Nat) (l : q_L) (i : Nat) (v : Value) : (i, q_cv bs v) :: (q_cl bs l).filter (fun q => !(q.1 == i) && (!(q.1 == i + 1) && !(q.1 + 1 == i && q.2.category == 2))) = q_cl bs (q_s2 l i v) := by
  rw [q_cl_filter bs (fun a b => !(a == i) && (!(a == i + 1) && !(a + 1 == i && b == 2))) l]
  rfl
theorem q_lv {ls : Array Slot} {nL bs : Nat} {l : q_L} (h : lv_has ls nL (q_cl bs l)) {k : Nat} {v : Value} (hg : q_get l k = some v) : ls[k]? = some (.val (q_cv bs v)) :=
  h.2.2 (k, q_cv bs v) (List.mem_map.mpr ⟨(k, v), q_get_mem hg, rfl⟩)
theorem q_lvx {bs : Nat} {l : q_L} {k : Nat} {v : Value} (hg : q_get l k = some v) : ∃ j : Nat, (q_cl bs l)[j]? = some (k, q_cv bs v) :=
  List.getElem?_of_mem (List.mem_map.mpr ⟨(k, v), q_get_mem hg, rfl⟩)
def q_in (i : Int32) (n : Nat) : Bool := !(decide (i < 0)) && decide (i.toNatClampNeg < n)
theorem q_in_vp {i : Int32} {n : Nat} (h : q_in i n = true) : vp_in i n := by
  simp only [q_in, Bool.and_eq_true, Bool.not_eq_true', decide_eq_false_iff_not, decide_eq_true_eq] at h
  rintro (h1 | h1)
  · exact h.1 h1
  · omega
end
section
def q_c (c : Jvm.ClassFile.Cond) (x y : Int32) : Bool := match c with
  | .eq => decide (x = y)
  | .ne => decide (¬ x = y)
  | .lt => decide (x < y)
  | .ge => decide (y ≤ x)
  | .gt => decide (y < x)
  | .le => decide (x ≤ y)
def q_to (pc : Nat) (off : Int) (l : q_L) (st : List Value) : Option (Nat × q_L × List Value) := if 0 ≤ (pc : Int) + off then some (((pc : Int) + off).toNat, l, st) else none
def q_br (pc len : Nat) (off : Int) (b : Bool) (l : q_L) (st : List Value) : Option (Nat × q_L × List Value) := if 0 ≤ (pc : Int) + off then some (if b = true then ((pc : Int) + off).toNat else pc + len, l, st) else none
/-- a step that leaves the memory alone -/
def q_pure (nL pc len : Nat) (i : Instr) (l : q_L) (st : List Value) : Option (Nat × q_L × List Value) := match i with
  | .iconst n => some (pc + len, l, .int (Int32.ofInt n) :: st)
  | .goto_w n => some (pc + len, l, .long (Int64.ofInt n) :: st)
  | .iload k => (match q_get l k with | some (.int x) => some (pc + len, l, .int x :: st) | _ => none)
  | .lload k => (match q_get l k with | some (.long x) => some (pc + len, l, .long x :: st) | _ => none)
  | .aload k => (match q_get l k with | some (.ref x) => some (pc + len, l, .ref x :: st) | some (.retAddr x) => some (pc + len, l, .retAddr x :: st) | _ => none)
  | .istore k => (match st with | .int x :: r => if k < nL then some (pc + len, q_s1 l k (.int x), r) else none | _ => none)
  | .astore k => (match st with | .ref x :: r => if k < nL then some (pc + len, q_s1 l k (.ref x), r) else none | _ => none)
  | .lstore k => (match st with | .long x :: r => if k + 1 < nL then some (pc + len, q_s2 l k (.long x), r) else none | _ => none)
  | .iinc k n => (match q_get l k with | some (.int x) => if k < nL then some (pc + len, q_s1 l k (.int (x + Int32.ofInt n)), st) else none | _ => none)
  | .iadd => (match st with | .int y :: .int x :: r => some (pc + len, l, .int (x + y) :: r) | _ => none)
  | .isub => (match st with | .int y :: .int x :: r => some (pc + len, l, .int (x - y) :: r) | _ => none)
  | .imul => (match st with | .int y :: .int x :: r => some (pc + len, l, .int (x * y) :: r) | _ => none)
  | .iand => (match st with | .int y :: .int x :: r => some (pc + len, l, .int (x &&& y) :: r) | _ => none)
  | .ior => (match st with | .int y :: .int x :: r => some (pc + len, l, .int (x ||| y) :: r) | _ => none)
  | .ixor => (match st with | .int y :: .int x :: r => some (pc + len, l, .int (x ^^^ y) :: r) | _ => none)
  | .ishl => (match st with | .int y :: .int x :: r => some (pc + len, l, .int (x <<< (y &&& 31)) :: r) | _ => none)
  | .ishr => (match st with | .int y :: .int x :: r => some (pc + len, l, .int (x >>> (y &&& 31)) :: r) | _ => none)
  | .iushr => (match st with | .int y :: .int x :: r => some (pc + len, l, .int ((x.toUInt32 >>> (y.toUInt32 &&& Int32.toUInt32 31)).toInt32) :: r) | _ => none)
  | .ladd => (match st with | .long y :: .long x :: r => some (pc + len, l, .long (x + y) :: r) | _ => none)
  | .lsub => (match st with | .long y :: .long x :: r => some (pc + len, l, .long (x - y) :: r) | _ => none)
  | .lmul => (match st with | .long y :: .long x :: r => some (pc + len, l, .long (x * y) :: r) | _ => none)
  | .land => (match st with | .long y :: .long x :: r => some (pc + len, l, .long (x &&& y) :: r) | _ => none)
  | .lor => (match st with | .long y :: .long x :: r => some (pc + len, l, .long (x ||| y) :: r) | _ => none)
  | .lxor => (match st with | .long y :: .long x :: r => some (pc + len, l, .long (x ^^^ y) :: r) | _ => none)
  | .idiv => (match st with | .int y :: .int x :: r => if y = 0 then none else some (pc + len, l, .int (x / y) :: r) | _ => none)
  | .irem => (match st with | .int y :: .int x :: r => if y = 0 then none else some (pc + len, l, .int (x - x / y * y) :: r) | _ => none)
  | .ldiv => (match st with | .long y :: .long x :: r => if y = 0 then none else some (pc + len, l, .long (x / y) :: r) | _ => none)
  | .lrem => (match st with | .long y :: .long x :: r => if y = 0 then none else some (pc + len, l, .long (x - x / y * y) :: r) | _ => none)
  | .lshl => (match st with | .int y :: .long x :: r => some (pc + len, l, .long (x <<< (y.toInt64 &&& 63)) :: r) | _ => none)
  | .lshr => (match st with | .int y :: .long x :: r => some (pc + len, l, .long (x >>> (y.toInt64 &&& 63)) :: r) | _ => none)
  | .lushr => (match st with | .int y :: .long x :: r => some (pc + len, l, .long ((x.toUInt64 >>> (y.toInt64.toUInt64 &&& Int64.toUInt64 63)).toInt64) :: r) | _ => none)
  | .i2l => (match st with | .int x :: r => some (pc + len, l, .long (x.toInt64) :: r) | _ => none)
  | .l2i => (match st with | .long x :: r => some (pc + len, l, .int (x.toInt32) :: r) | _ => none)
  | .i2b => (match st with | .int x :: r => some (pc + len, l, .int (x.toInt8.toInt32) :: r) | _ => none)
  | .i2s => (match st with | .int x :: r => some (pc + len, l, .int (x.toInt16.toInt32) :: r) | _ => none)
  | .i2c => (match st with | .int x :: r => some (pc + len, l, .int ((x.toUInt32 % 65536).toInt32) :: r) | _ => none)
  | .ineg => (match st with | .int x :: r => some (pc + len, l, .int (-x) :: r) | _ => none)
  | .lneg => (match st with | .long x :: r => some (pc + len, l, .long (-x) :: r) | _ => none)
  | .lcmp => (match st with | .long y :: .long x :: r => some (pc + len, l, .int (lg_cmp x y) :: r) | _ => none)
  | .dup => (match st with | v :: r => if v.category = 1 then some (pc + len, l, v :: v :: r) else none | _ => none)
  | .pop => (match st with | v :: r => if v.category = 1 then some (pc + len, l, r) else none | _ => none)
  | .dup2 => (match st with | a :: r => if a.category = 2 then some (pc + len, l, a :: a :: r) else (match r with | b :: r => if a.category = 1 ∧ b.category = 1 then some (pc + len, l, a :: b :: a :: b :: r) else none | _ => none) | _ => none)
  | .pop2 => (match st with | a :: r => if a.category = 2 then some (pc + len, l, r) else none | _ => none)
  | .ifCond c off => (match st with | .int x :: r => q_br pc len off (q_c c x 0) l r | _ => none)
  | .if_icmp c off => (match st with | .int y :: .int x :: r => q_br pc len off (q_c c x y) l r | _ => none)
  | .goto off => q_to pc off l st
  | .tableswitch d lo hi offs => (match st with | .int x :: r => if x.toInt < lo ∨ hi < x.toInt then q_to pc d l r else (match offs[(x.toInt - lo).toNat]? with | some off => q_to pc off l r | none => none) | _ => none)
  | .lookupswitch d ps => (match st with | .int x :: r => if (ps.toList.zip (ps.toList.drop 1)).all (fun (a, next) => a.1 < next.1) = true then q_to pc (Op.lookupswitch.offset ps.toList d x.toInt) l r else none | _ => none)
  | _ => none
/-- the resolved instruction is what the bytes say (no links) -/
def q_ok1 (raw : Instr) (len : Nat) (i : Instr) : Bool := match i with
  | .iconst n => (match raw with | .iconst a => decide (a = n ∧ len = 1) | .bipush a => decide (a = n ∧ len = 2 ∧ (Int8.ofInt n).toInt32 = Int32.ofInt n) | .sipush a => decide (a = n ∧ len = 3 ∧ (Int16.ofInt n).toInt32 = Int32.ofInt n) | _ => false)
  | .goto_w n => (match raw with | .lconst a => decide (((a : Nat) : Int) = n ∧ len = 1) | _ => false)
  | .iload k => (match raw with | .iload a => decide (a = k ∧ len = 2) | .iload_n a => decide ((a : Nat) = k ∧ len = 1) | _ => false)
  | .lload k => (match raw with | .lload a => decide (a = k ∧ len = 2) | .lload_n a => decide ((a : Nat) = k ∧ len = 1) | _ => false)
  | .aload k => (match raw with | .aload a => decide (a = k ∧ len = 2) | .aload_n a => decide ((a : Nat) = k ∧ len = 1) | _ => false)
  | .istore k => (match raw with | .istore a => decide (a = k ∧ len = 2) | .istore_n a => decide ((a : Nat) = k ∧ len = 1) | _ => false)
  | .astore k => (match raw with | .astore a => decide (a = k ∧ len = 2) | .astore_n a => decide ((a : Nat) = k ∧ len = 1) | _ => false)
  | .lstore k => (match raw with | .lstore a => decide (a = k ∧ len = 2) | .lstore_n a => decide ((a : Nat) = k ∧ len = 1) | _ => false)
  | .iinc _ _ => decide (raw = i ∧ len = 3)
  | .iadd => decide (raw = i ∧ len = 1)
  | .isub => decide (raw = i ∧ len = 1)
  | .imul => decide (raw = i ∧ len = 1)
  | .iand => decide (raw = i ∧ len = 1)
  | .ior => decide (raw = i ∧ len = 1)
  | .ixor => decide (raw = i ∧ len = 1)
  | .ishl => decide (raw = i ∧ len = 1)
  | .ishr => decide (raw = i ∧ len = 1)
  | .iushr => decide (raw = i ∧ len = 1)
  | .ladd => decide (raw = i ∧ len = 1)
  | .lsub => decide (raw = i ∧ len = 1)
  | .lmul => decide (raw = i ∧ len = 1)
  | .land => decide (raw = i ∧ len = 1)
  | .lor => decide (raw = i ∧ len = 1)
  | .lxor => decide (raw = i ∧ len = 1)
  | .idiv => decide (raw = i ∧ len = 1)
  | .irem => decide (raw = i ∧ len = 1)
  | .ldiv => decide (raw = i ∧ len = 1)
  | .lrem => decide (raw = i ∧ len = 1)
  | .lshl => decide (raw = i ∧ len = 1)
  | .lshr => decide (raw = i ∧ len = 1)
  | .lushr => decide (raw = i ∧ len = 1)
  | .i2l => decide (raw = i ∧ len = 1)
  | .l2i => decide (raw = i ∧ len = 1)
  | .i2b => decide (raw = i ∧ len = 1)
  | .i2s => decide (raw = i ∧ len = 1)
  | .i2c => decide (raw = i ∧ len = 1)
  | .ineg => decide (raw = i ∧ len = 1)
  | .lneg => decide (raw = i ∧ len = 1)
  | .lcmp => decide (raw = i ∧ len = 1)
  | .dup => decide (raw = i ∧ len = 1)
  | .pop => decide (raw = i ∧ len = 1)
  | .dup2 => decide (raw = i ∧ len = 1)
  | .pop2 => decide (raw = i ∧ len = 1)
  | .ifCond _ _ => decide (raw = i ∧ len = 3)
  | .if_icmp _ _ => decide (raw = i ∧ len = 3)
  | .goto _ => decide (raw = i ∧ len = 3)
  | .tableswitch _ _ _ _ => decide (raw = i)
  | .lookupswitch _ _ => decide (raw = i)
  | _ => false
section QPURE
variable {p : Program} {l : Launch} {e : Env} {R : Room} {s : State} {m : MethodId} {args : Array Value} {below : List Frame} {meth : Method} {c : Code} {H : Heap} {locs : List Loc} {cells slots : Nat} {Q : State → Prop}
variable {cc : ByteArray} {pc : Nat} {ls : Array Slot}
theorem q_toW (l' : q_L) {off : Int} {lv lv' : q_L} {st st' : List Value} {pc' : Nat} (h : q_to pc off lv st = some (pc', lv', st')) : (pc : Int) + off = (pc' : Int) ∧ lv' = lv ∧ st' = st := by
  unfold q_to at h
  split at h
  · cases h
    exact ⟨by omega, rfl, rfl⟩
  · cases h
theorem q_brW {P : Prop} [Decidable P] {bs : Nat} {off : Int} {lv lv' : q_L} {r st' : List Value} {pc' : Nat} {G : Prop} (h : q_br pc 3 off (decide P) lv r = some (pc', lv', st'))
    (row : ∀ tgt : Nat, (pc : Int) + off = (tgt : Int) → (P → W p l e R s m args below meth c H locs cells slots Q (F0 m tgt ls (r.map (q_cv bs)))) → (¬ P → W p l e R s m args below meth c H locs cells slots Q (F0 m (pc + 3) ls (r.map (q_cv bs)))) → G)
    (kk : lv' = lv → W p l e R s m args below meth c H locs cells slots Q (F0 m pc' ls (st'.map (q_cv bs)))) : G := by
  unfold q_br at h
  by_cases h0 : 0 ≤ (pc : Int) + off
  · rw [if_pos h0] at h
    have h1 := Option.some.inj h
    have e1 : pc' = (if decide P = true then ((pc : Int) + off).toNat else pc + 3) := (congrArg Prod.fst h1).symm
    have e2 : lv' = lv := (congrArg (fun z => z.2.1) h1).symm
    have e3 : st' = r := (congrArg (fun z => z.2.2) h1).symm
    have K := kk e2
    rw [e3] at K
    refine row ((pc : Int) + off).toNat (by omega) (fun hp => ?_) (fun hp => ?_)
    · rw [e1, if_pos (decide_eq_true hp)] at K
      exact K
    · rw [e1, if_neg (by simpa using hp)] at K
      exact K
  · rw [if_neg h0] at h
    cases h
theorem q_pureW (hx : p.tables.exec = Jvm.exec) (hb : c.code = cc) {bs nL len : Nat} {raw i : Instr} {lv lv' : q_L} {st st' : List Value} {pc' : Nat} (hd : decode cc pc = .ok (raw, len)) (ho : q_ok1 raw len i = true) (hl : lv_has ls nL (q_cl bs lv))
    (h : q_pure nL pc len i lv st = some (pc', lv', st'))
    (kk : ∀ ls' : Array Slot, lv_has ls' nL (q_cl bs lv') → W p l e R s m args below meth c H locs cells slots Q (F0 m pc' ls' (st'.map (q_cv bs)))) : W p l e R s m args below meth c H locs cells slots Q (F0 m pc ls (st.map (q_cv bs))) := by
  unfold q_pure at h
  split at h
  · -- iconst
    simp only [q_ok1] at ho
    cases h
    split at ho
    · simp only [decide_eq_true_eq] at ho; obtain ⟨rfl, rfl⟩ := ho
      exact lv_iconst hx hb hd rfl (kk ls hl)
    · simp only [decide_eq_true_eq] at ho; obtain ⟨rfl, rfl, ho⟩ := ho
      exact lv_bipush hx hb hd ho (kk ls hl)
    · simp only [decide_eq_true_eq] at ho; obtain ⟨rfl, rfl, ho⟩ := ho
      exact lv_sipush hx hb hd ho (kk ls hl)
    · cases ho
  · -- goto_w: a long
    simp only [q_ok1] at ho
    cases h
    split at ho
    · simp only [decide_eq_true_eq] at ho; obtain ⟨rfl, rfl⟩ := ho
      exact lv_lconst hx hb hd (by simp [Int64.ofInt_eq_ofNat]) (kk ls hl)
    · cases ho
  · -- iload
    simp only [q_ok1] at ho
    split at h
    · rename_i hg
      cases h
      have hg2 := q_lv hl hg
      split at ho
      · simp only [decide_eq_true_eq] at ho; obtain ⟨rfl, rfl⟩ := ho
        exact lv_iload hx hb hd hg2 (kk ls hl)
      · simp only [decide_eq_true_eq] at ho; obtain ⟨ho, rfl⟩ := ho
        exact lv_iload_n hx hb hd ho hg2 (kk ls hl)
      · cases ho
    · cases h
  · -- lload
    simp only [q_ok1] at ho
    split at h
    · rename_i hg
      cases h
      have hg2 := q_lv hl hg
      split at ho
      · simp only [decide_eq_true_eq] at ho; obtain ⟨rfl, rfl⟩ := ho
        exact lv_lload hx hb hd hg2 (kk ls hl)
      · simp only [decide_eq_true_eq] at ho; obtain ⟨ho, rfl⟩ := ho
        exact lv_lload_n hx hb hd ho hg2 (kk ls hl)
      · cases ho
    · cases h
  · -- aload
    simp only [q_ok1] at ho
    split at h
    · rename_i hg
      cases h
      have hg2 := q_lv hl hg
      split at ho
      · simp only [decide_eq_true_eq] at ho; obtain ⟨rfl, rfl⟩ := ho
        exact lv_aload hx hb hd hg2 (kk ls hl)
      · simp only [decide_eq_true_eq] at ho; obtain ⟨ho, rfl⟩ := ho
        exact lv_aload_n hx hb hd ho hg2 (kk ls hl)
      · cases ho
    · rename_i hg
      cases h
      have hg2 := q_lv hl hg
      split at ho
      · simp only [decide_eq_true_eq] at ho; obtain ⟨rfl, rfl⟩ := ho
        exact lv_aload hx hb hd hg2 (kk ls hl)
      · simp only [decide_eq_true_eq] at ho; obtain ⟨ho, rfl⟩ := ho
        exact lv_aload_n hx hb hd ho hg2 (kk ls hl)
      · cases ho
    · cases h
  · -- istore
    simp only [q_ok1] at ho
    split at h
    · split at h
      · rename_i hk
        cases h
        split at ho
        · simp only [decide_eq_true_eq] at ho; obtain ⟨rfl, rfl⟩ := ho
          exact lv_istore hx hb hd hl hk (q_cl_s1 bs lv _ (.int _)) (fun ls' h' => kk ls' h')
        · simp only [decide_eq_true_eq] at ho; obtain ⟨ho, rfl⟩ := ho
          exact lv_istore_n hx hb hd ho hl hk (q_cl_s1 bs lv _ (.int _)) (fun ls' h' => kk ls' h')
        · cases ho
      · cases h
    · cases h
  · -- astore
    simp only [q_ok1] at ho
    split at h
    · split at h
      · rename_i hk
        cases h
        split at ho
        · simp only [decide_eq_true_eq] at ho; obtain ⟨rfl, rfl⟩ := ho
          exact lv_astore hx hb hd hl hk (q_cl_s1 bs lv _ (.ref _)) (fun ls' h' => kk ls' h')
        · simp only [decide_eq_true_eq] at ho; obtain ⟨ho, rfl⟩ := ho
          exact lv_astore_n hx hb hd ho hl hk (q_cl_s1 bs lv _ (.ref _)) (fun ls' h' => kk ls' h')
        · cases ho
      · cases h
    · cases h
  · -- lstore
    simp only [q_ok1] at ho
    split at h
    · split at h
      · rename_i hk
        cases h
        split at ho
        · simp only [decide_eq_true_eq] at ho; obtain ⟨rfl, rfl⟩ := ho
          exact lv_lstore hx hb hd hl hk (q_cl_s2 bs lv _ (.long _)) (fun ls' h' => kk ls' h')
        · simp only [decide_eq_true_eq] at ho; obtain ⟨ho, rfl⟩ := ho
          exact lv_lstore_n hx hb hd ho hl hk (q_cl_s2 bs lv _ (.long _)) (fun ls' h' => kk ls' h')
        · cases ho
      · cases h
    · cases h
  · -- iinc
    simp only [q_ok1, decide_eq_true_eq] at ho
    obtain ⟨rfl, rfl⟩ := ho
    split at h
    · rename_i hg
      split at h
      · rename_i hk
        cases h
        obtain ⟨j, hj⟩ := q_lvx (bs := bs) hg
        exact lv_iinc hx hb hd hl hj rfl hk (q_cl_s1 bs lv _ (.int _)) (fun ls' h' => kk ls' h')
      · cases h
    · cases h
  · -- iadd
    simp only [q_ok1, decide_eq_true_eq] at ho
    obtain ⟨rfl, rfl⟩ := ho
    split at h
    · cases h
      exact lv_iadd hx hb hd (kk ls hl)
    · cases h
  · -- isub
    simp only [q_ok1, decide_eq_true_eq] at ho
    obtain ⟨rfl, rfl⟩ := ho
    split at h
    · cases h
      exact lv_isub hx hb hd (kk ls hl)
    · cases h
  · -- imul
    simp only [q_ok1, decide_eq_true_eq] at ho
    obtain ⟨rfl, rfl⟩ := ho
    split at h
    · cases h
      exact lv_imul hx hb hd (kk ls hl)
    · cases h
  · -- iand
    simp only [q_ok1, decide_eq_true_eq] at ho
    obtain ⟨rfl, rfl⟩ := ho
    split at h
    · cases h
      exact lv_iand hx hb hd (kk ls hl)
    · cases h
  · -- ior
    simp only [q_ok1, decide_eq_true_eq] at ho
    obtain ⟨rfl, rfl⟩ := ho
    split at h
    · cases h
      exact lv_ior hx hb hd (kk ls hl)
    · cases h
  · -- ixor
    simp only [q_ok1, decide_eq_true_eq] at ho
    obtain ⟨rfl, rfl⟩ := ho
    split at h
    · cases h
      exact lv_ixor hx hb hd (kk ls hl)
    · cases h
  · -- ishl
    simp only [q_ok1, decide_eq_true_eq] at ho
    obtain ⟨rfl, rfl⟩ := ho
    split at h
    · cases h
      exact lv_ishl hx hb hd (kk ls hl)
    · cases h
  · -- ishr
    simp only [q_ok1, decide_eq_true_eq] at ho
    obtain ⟨rfl, rfl⟩ := ho
    split at h
    · cases h
      exact lv_ishr hx hb hd (kk ls hl)
    · cases h
  · -- iushr
    simp only [q_ok1, decide_eq_true_eq] at ho
    obtain ⟨rfl, rfl⟩ := ho
    split at h
    · cases h
      exact lv_iushr hx hb hd rfl (kk ls hl)
    · cases h
  · -- ladd
    simp only [q_ok1, decide_eq_true_eq] at ho
    obtain ⟨rfl, rfl⟩ := ho
    split at h
    · cases h
      exact lv_ladd hx hb hd (kk ls hl)
    · cases h
  · -- lsub
    simp only [q_ok1, decide_eq_true_eq] at ho
    obtain ⟨rfl, rfl⟩ := ho
    split at h
    · cases h
      exact lv_lsub hx hb hd (kk ls hl)
    · cases h
  · -- lmul
    simp only [q_ok1, decide_eq_true_eq] at ho
    obtain ⟨rfl, rfl⟩ := ho
    split at h
    · cases h
      exact lv_lmul hx hb hd (kk ls hl)
    · cases h
  · -- land
    simp only [q_ok1, decide_eq_true_eq] at ho
    obtain ⟨rfl, rfl⟩ := ho
    split at h
    · cases h
      exact lv_land hx hb hd (kk ls hl)
    · cases h
  · -- lor
    simp only [q_ok1, decide_eq_true_eq] at ho
    obtain ⟨rfl, rfl⟩ := ho
    split at h
    · cases h
      exact lv_lor hx hb hd (kk ls hl)
    · cases h
  · -- lxor
    simp only [q_ok1, decide_eq_true_eq] at ho
    obtain ⟨rfl, rfl⟩ := ho
    split at h
    · cases h
      exact lv_lxor hx hb hd (kk ls hl)
    · cases h
  · -- idiv
    simp only [q_ok1, decide_eq_true_eq] at ho
    obtain ⟨rfl, rfl⟩ := ho
    split at h
    · split at h
      · cases h
      · rename_i hne
        cases h
        exact lv_idiv hx hb hd hne (kk ls hl)
    · cases h
  · -- irem
    simp only [q_ok1, decide_eq_true_eq] at ho
    obtain ⟨rfl, rfl⟩ := ho
    split at h
    · split at h
      · cases h
      · rename_i hne
        cases h
        exact lv_irem hx hb hd hne (kk ls hl)
    · cases h
  · -- ldiv
    simp only [q_ok1, decide_eq_true_eq] at ho
    obtain ⟨rfl, rfl⟩ := ho
    split at h
    · split at h
      · cases h
      · rename_i hne
        cases h
        exact lv_ldiv hx hb hd hne (kk ls hl)
    · cases h
  · -- lrem
    simp only [q_ok1, decide_eq_true_eq] at ho
    obtain ⟨rfl, rfl⟩ := ho
    split at h
    · split at h
      · cases h
      · rename_i hne
        cases h
        exact lv_lrem hx hb hd hne (kk ls hl)
    · cases h
  · -- lshl
    simp only [q_ok1, decide_eq_true_eq] at ho
    obtain ⟨rfl, rfl⟩ := ho
    split at h
    · cases h
      exact lv_lshl hx hb hd rfl (kk ls hl)
    · cases h
  · -- lshr
    simp only [q_ok1, decide_eq_true_eq] at ho
    obtain ⟨rfl, rfl⟩ := ho
    split at h
    · cases h
      exact lv_lshr hx hb hd rfl (kk ls hl)
    · cases h
  · -- lushr
    simp only [q_ok1, decide_eq_true_eq] at ho
    obtain ⟨rfl, rfl⟩ := ho
    split at h
    · cases h
      exact lv_lushr hx hb hd rfl (kk ls hl)
    · cases h
  · -- i2l
    simp only [q_ok1, decide_eq_true_eq] at ho
    obtain ⟨rfl, rfl⟩ := ho
    split at h
    · cases h
      exact lv_i2l hx hb hd rfl (kk ls hl)
    · cases h
  · -- l2i
    simp only [q_ok1, decide_eq_true_eq] at ho
    obtain ⟨rfl, rfl⟩ := ho
    split at h
    · cases h
      exact lv_l2i hx hb hd rfl (kk ls hl)
    · cases h
  · -- i2b
    simp only [q_ok1, decide_eq_true_eq] at ho
    obtain ⟨rfl, rfl⟩ := ho
    split at h
    · cases h
      exact lv_i2b hx hb hd rfl (kk ls hl)
    · cases h
  · -- i2s
    simp only [q_ok1, decide_eq_true_eq] at ho
    obtain ⟨rfl, rfl⟩ := ho
    split at h
    · cases h
      exact lv_i2s hx hb hd rfl (kk ls hl)
    · cases h
  · -- i2c
    simp only [q_ok1, decide_eq_true_eq] at ho
    obtain ⟨rfl, rfl⟩ := ho
    split at h
    · cases h
      exact lv_i2c hx hb hd rfl (kk ls hl)
    · cases h
  · -- ineg
    simp only [q_ok1, decide_eq_true_eq] at ho
    obtain ⟨rfl, rfl⟩ := ho
    split at h
    · cases h
      exact lv_ineg hx hb hd (kk ls hl)
    · cases h
  · -- lneg
    simp only [q_ok1, decide_eq_true_eq] at ho
    obtain ⟨rfl, rfl⟩ := ho
    split at h
    · cases h
      exact lv_lneg hx hb hd (kk ls hl)
    · cases h
  · -- lcmp
    simp only [q_ok1, decide_eq_true_eq] at ho
    obtain ⟨rfl, rfl⟩ := ho
    split at h
    · cases h
      exact W.lcmp hx hb hd (kk ls hl)
    · cases h
  · -- dup
    simp only [q_ok1, decide_eq_true_eq] at ho
    obtain ⟨rfl, rfl⟩ := ho
    split at h
    · split at h
      · rename_i hc
        cases h
        exact lv_dup hx hb hd (by rw [q_cv_cat]; exact hc) (kk ls hl)
      · cases h
    · cases h
  · -- pop
    simp only [q_ok1, decide_eq_true_eq] at ho
    obtain ⟨rfl, rfl⟩ := ho
    split at h
    · split at h
      · rename_i hc
        cases h
        exact lv_pop hx hb hd (by rw [q_cv_cat]; exact hc) (kk ls hl)
      · cases h
    · cases h
  · -- dup2
    simp only [q_ok1, decide_eq_true_eq] at ho
    obtain ⟨rfl, rfl⟩ := ho
    split at h
    · split at h
      · rename_i hc
        cases h
        exact lv_dup2_2 hx hb hd (by rw [q_cv_cat]; exact hc) (kk ls hl)
      · split at h
        · split at h
          · rename_i hc
            cases h
            exact lv_dup2_11 hx hb hd (by rw [q_cv_cat]; exact hc.1) (by rw [q_cv_cat]; exact hc.2) (kk ls hl)
          · cases h
        · cases h
    · cases h
  · -- pop2
    simp only [q_ok1, decide_eq_true_eq] at ho
    obtain ⟨rfl, rfl⟩ := ho
    split at h
    · split at h
      · rename_i hc
        cases h
        exact lv_pop2_2 hx hb hd (by rw [q_cv_cat]; exact hc) (kk ls hl)
      · cases h
    · cases h
  · -- ifCond
    simp only [q_ok1, decide_eq_true_eq] at ho
    obtain ⟨rfl, rfl⟩ := ho
    split at h
    · rename_i cd off _ x r
      cases cd <;> simp only [q_c] at h
      · exact q_brW h (fun t ht k1 k2 => lv_if_eq hx hb hd ht k1 k2) (fun q => kk ls (q ▸ hl))
      · exact q_brW h (fun t ht k1 k2 => lv_if_ne hx hb hd ht k1 (fun a => k2 (fun b => b a))) (fun q => kk ls (q ▸ hl))
      · exact q_brW h (fun t ht k1 k2 => lv_if_lt hx hb hd ht k1 k2) (fun q => kk ls (q ▸ hl))
      · exact q_brW h (fun t ht k1 k2 => lv_if_ge hx hb hd ht k1 k2) (fun q => kk ls (q ▸ hl))
      · exact q_brW h (fun t ht k1 k2 => lv_if_gt hx hb hd ht k1 k2) (fun q => kk ls (q ▸ hl))
      · exact q_brW h (fun t ht k1 k2 => lv_if_le hx hb hd ht k1 k2) (fun q => kk ls (q ▸ hl))
    · cases h
  · -- if_icmp
    simp only [q_ok1, decide_eq_true_eq] at ho
    obtain ⟨rfl, rfl⟩ := ho
    split at h
    · rename_i cd off _ y x r
      cases cd <;> simp only [q_c] at h
      · exact q_brW h (fun t ht k1 k2 => lv_icmp_eq hx hb hd ht k1 k2) (fun q => kk ls (q ▸ hl))
      · exact q_brW h (fun t ht k1 k2 => lv_icmp_ne hx hb hd ht k1 (fun a => k2 (fun b => b a))) (fun q => kk ls (q ▸ hl))
      · exact q_brW h (fun t ht k1 k2 => lv_icmp_lt hx hb hd ht k1 k2) (fun q => kk ls (q ▸ hl))
      · exact q_brW h (fun t ht k1 k2 => lv_icmp_ge hx hb hd ht k1 k2) (fun q => kk ls (q ▸ hl))
      · exact q_brW h (fun t ht k1 k2 => lv_icmp_gt hx hb hd ht k1 k2) (fun q => kk ls (q ▸ hl))
      · exact q_brW h (fun t ht k1 k2 => lv_icmp_le hx hb hd ht k1 k2) (fun q => kk ls (q ▸ hl))
    · cases h
  · -- goto
    simp only [q_ok1, decide_eq_true_eq] at ho
    obtain ⟨rfl, rfl⟩ := ho
    obtain ⟨ht, rfl, rfl⟩ := q_toW lv h
    exact lv_goto hx hb hd ht (kk ls hl)
  · -- tableswitch
    simp only [q_ok1, decide_eq_true_eq] at ho
    obtain rfl := ho
    split at h
    · split at h
      · rename_i hc
        obtain ⟨ht, rfl, rfl⟩ := q_toW lv h
        exact lv_tableOut hx hb hd hc ht (kk ls hl)
      · rename_i hc
        split at h
        · rename_i hoff
          obtain ⟨ht, rfl, rfl⟩ := q_toW lv h
          exact lv_tableIn hx hb hd (fun q => hc (Or.inl q)) (fun q => hc (Or.inr q)) hoff ht (kk ls hl)
        · cases h
    · cases h
  · -- lookupswitch
    simp only [q_ok1, decide_eq_true_eq] at ho
    obtain rfl := ho
    split at h
    · split at h
      · rename_i hc
        obtain ⟨ht, rfl, rfl⟩ := q_toW lv h
        exact lv_lookup hx hb hd hc rfl ht (kk ls hl)
      · cases h
    · cases h
  · cases h
end QPURE
end
section
/-! THE PROGRAM's DATA: the tables' words, the classes, the arrays' types, the methods, the links to private members of nest mates -/
abbrev q_I : Type := Nat × Instr × Nat × Instr × Nat
abbrev q_MI : Type := MethodName × ByteArray × Nat × Option FieldType × List q_I × (Nat × Nat × Nat × Nat) × (Nat × Nat × Nat × Nat)
/-- a text constant: whose, its number, the text, its bytes -/
abbrev q_Sx : Type := String × Nat × String × List Int32
abbrev q_G : Type := List (List Cond) × List vw_C × (Nat → Nat → FieldType) × List FieldType × List q_MI × List (String × Nat × MethodName × String) × List q_Sx
def q_gT (G : q_G) : List (List Cond) := G.1
def q_tat (G : q_G) (pos : Nat) : Option Cond := match (q_gT G)[pos / 1000]? with
  | some l => l[pos % 1000]?
  | none => none
def q_gC (G : q_G) : List vw_C := G.2.1
def q_gY (G : q_G) : Nat → Nat → FieldType := G.2.2.1
def q_gA (G : q_G) : List FieldType := G.2.2.2.1
def q_gM (G : q_G) : List q_MI := G.2.2.2.2.1
def q_gN (G : q_G) : List (String × Nat × MethodName × String) := G.2.2.2.2.2.1
def q_gS (G : q_G) : List q_Sx := G.2.2.2.2.2.2
def q_T (G : q_G) : List Cond := (q_gT G).flatten.filter goodWord
theorem q_T_at {G : q_G} {pos : Nat} {w : Cond} (h : q_tat G pos = some w) (hg : goodWord w = true) : w ∈ q_T G := by
  unfold q_tat at h
  split at h
  · rename_i l hl
    exact List.mem_filter.mpr ⟨List.mem_flatten.mpr ⟨l, List.mem_of_getElem? hl, List.mem_of_getElem? h⟩, hg⟩
  · cases h
def q_tyl (G : q_G) (tc : Nat → ClassId) : List (ClassId × FieldType) := (q_gA G).mapIdx (fun t ty => (tc t, ty))
theorem q_tyl_get {G : q_G} {tc : Nat → ClassId} {t : Nat} {ty : FieldType} (h : (q_gA G)[t]? = some ty) : (q_tyl G tc)[t]? = some (tc t, ty) := by simp [q_tyl, h]
def q_sys : List Cond := [.native arraycopyName, .static arraycopyName, .initialized "java/lang/System", .instanceMethod Lib.objectInit, .code Lib.objectInit ⟨#[0xb1]⟩ 1 none]
def q_GV (G : q_G) : Prop := (∀ (ci : Nat) (C : String) (T : u_T) (N : Nat), (q_gC G)[ci]? = some (C, T, N) → (∀ w ∈ u_ws C T N, w ∈ q_T G) ∧ (∀ k, k < N → parseFieldDescriptor (T k).2.2.1 = some (q_gY G ci k)) ∧ (∀ a, a < N → ∀ b, b < N → a ≠ b → (T a).2.1 ≠ (T b).2.1) ∧ Cond.instantiable C N ∈ q_T G ∧ Cond.initialized C ∈ q_T G) ∧ (∀ w ∈ q_sys, w ∈ q_T G)
def q_tag (a : ArrayType) : Nat := match a with
  | .int => 0
  | .long => 1
  | .byte => 2
  | .boolean => 3
  | _ => 99
def q_cats (r : List Value) : Nat := (r.map fun v => v.category).sum
theorem q_cats_cv (bs : Nat) (r : List Value) : ((r.map (q_cv bs)).map fun v => v.category).sum = q_cats r := by
  simp only [q_cats, List.map_map]
  congr 1
  apply List.map_congr_left
  intro v _
  exact q_cv_cat bs v
def q_cpy (r : List Value) (m : q_M) (j k sp dp w : Nat) : Option (List Value × q_M) := match m[j]?, m[k]? with
  | some (.inl (t0, n0, .inl f)), some (.inl (t1, n1, .inl g)) => if t0 = 0 ∧ t1 = 0 ∧ sp + w ≤ n0 ∧ dp + w ≤ n1 then some (r, m.set k (.inl (t1, n1, .inl (va_cpy f g sp dp w)))) else none
  | some (.inl (t0, n0, .inr (.inl f))), some (.inl (t1, n1, .inr (.inl g))) => if t0 = 1 ∧ t1 = 1 ∧ sp + w ≤ n0 ∧ dp + w ≤ n1 then some (r, m.set k (.inl (t1, n1, .inr (.inl (va_cpy f g sp dp w))))) else none
  | _, _ => none
def q_copy (fr lo : Nat) (st : List Value) (m : q_M) : Option (List Value × q_M) := match st with
  | .int w :: .int dp :: .ref k :: .int sp :: .ref j :: r => if 1 ≤ fr ∧ q_cats r + 18 ≤ lo ∧ ¬ sp < 0 ∧ ¬ dp < 0 ∧ ¬ w < 0 then q_cpy r m j k sp.toNatClampNeg dp.toNatClampNeg w.toNatClampNeg else none
  | _ => none
/-- reading and writing cells: the stack and the memory behind it -/
def q_mem (G : q_G) (fr lo : Nat) (i : Instr) (st : List Value) (m : q_M) : Option (List Value × q_M) := match i with
  | .getfield n => (match st with | .ref k :: r => (match m[k]? with | some (.inr (ci, fs)) => if ci = n / 64 then (match fs[n % 64]? with | some v => some (v :: r, m) | none => none) else none | _ => none) | _ => none)
  | .putfield n => (match st with | v :: .ref k :: r => (match m[k]? with | some (.inr (ci, fs)) => if ci = n / 64 ∧ n % 64 < fs.length ∧ narrow (q_gY G ci (n % 64)) v = v ∧ fits (q_gY G ci (n % 64)) v = true then some (r, m.set k (.inr (ci, fs.set (n % 64) v))) else none | _ => none) | _ => none)
  | .iaload => (match st with | .int j :: .ref k :: r => (match m[k]? with | some (.inl (t, n, .inl f)) => if t = 0 ∧ q_in j n = true then some (.int (f j.toNatClampNeg) :: r, m) else none | _ => none) | _ => none)
  | .laload => (match st with | .int j :: .ref k :: r => (match m[k]? with | some (.inl (t, n, .inr (.inl f))) => if t = 1 ∧ q_in j n = true then some (.long (f j.toNatClampNeg) :: r, m) else none | _ => none) | _ => none)
  | .baload => (match st with | .int j :: .ref k :: r => (match m[k]? with | some (.inl (t, n, .inl f)) => if (t = 2 ∨ t = 3) ∧ q_in j n = true then some (.int (f j.toNatClampNeg) :: r, m) else none | _ => none) | _ => none)
  | .aaload => (match st with | .int j :: .ref k :: r => (match m[k]? with | some (.inl (t, n, .inr (.inr f))) => if 4 ≤ t ∧ q_in j n = true ∧ t < (q_gA G).length then some (va_rf (f j.toNatClampNeg) :: r, m) else none | _ => none) | _ => none)
  | .iastore => (match st with | .int x :: .int j :: .ref k :: r => (match m[k]? with | some (.inl (t, n, .inl f)) => if t = 0 ∧ q_in j n = true then some (r, m.set k (.inl (t, n, .inl (upd f j.toNatClampNeg x)))) else none | _ => none) | _ => none)
  | .lastore => (match st with | .long x :: .int j :: .ref k :: r => (match m[k]? with | some (.inl (t, n, .inr (.inl f))) => if t = 1 ∧ q_in j n = true then some (r, m.set k (.inl (t, n, .inr (.inl (vp_updL f j.toNatClampNeg x))))) else none | _ => none) | _ => none)
  | .bastore => (match st with | .int x :: .int j :: .ref k :: r => (match m[k]? with | some (.inl (t, n, .inl f)) => if t = 2 ∧ q_in j n = true then some (r, m.set k (.inl (t, n, .inl (upd f j.toNatClampNeg (vp_nar .byte x))))) else if t = 3 ∧ q_in j n = true then some (r, m.set k (.inl (t, n, .inl (upd f j.toNatClampNeg (vp_nar .boolean x))))) else none | _ => none) | _ => none)
  | .aastore => (match st with | .ref v :: .int j :: .ref k :: r => (match m[k]? with | some (.inl (t, n, .inr (.inr f))) => (match m[v]? with | some (.inr (ci, _)) => if 4 ≤ t ∧ q_in j n = true ∧ ((q_gC G)[ci]?.map fun z => FieldType.object z.1) = (q_gA G)[t]? ∧ ((q_gA G)[t]?).isSome = true then some (r, m.set k (.inl (t, n, .inr (.inr (va_up f j.toNatClampNeg (some v)))))) else none | _ => none) | _ => none) | _ => none)
  | .arraylength => (match st with | .ref k :: r => (match m[k]? with | some (.inl (t, n, _)) => if t < (q_gA G).length then some (.int (Int32.ofNat n) :: r, m) else none | _ => none) | _ => none)
  | .invokedynamic n => if n = 0 then (match st with | .ref _ :: r => if 1 ≤ fr ∧ q_cats r + 12 ≤ lo then some (r, m) else none | _ => none)
      else if n = 1 then q_copy fr lo st m
      else if n = 2 then (match st with | .retAddr (a + 1) :: r => (match (q_gS G)[a]? with | some x => if 5 ≤ fr ∧ q_cats r ≤ 8 ∧ 120 ≤ lo then some (.int (Int32.ofNat x.2.2.2.length) :: r, m) else none | none => none) | _ => none)
      else if n = 3 then (match st with | .int j :: .retAddr (a + 1) :: r => (match (q_gS G)[a]? with | some x => if 5 ≤ fr ∧ q_cats r ≤ 8 ∧ 120 ≤ lo ∧ q_in j x.2.2.2.length = true then some (.int (x.2.2.2.getD j.toNatClampNeg 0 &&& 255) :: r, m) else none | none => none) | _ => none)
      else none
  | _ => none
/-- making cells: the stack, and the new cell -/
def q_new (G : q_G) (i : Instr) (st : List Value) (m : q_M) : Option (List Value × q_E) := match i with
  | .new ci => (match (q_gC G)[ci]? with | some (_, _, N) => some (.ref m.length :: st, .inr (ci, (List.range N).map (fun k => defaultValue (q_gY G ci k)))) | none => none)
  | .newarray a => (match st with | .int w :: r => if ¬ w < 0 ∧ w.toNatClampNeg ≤ 60000000 ∧ q_tag a < 4 then some (.ref m.length :: r, .inl (q_tag a, w.toNatClampNeg, if a = .long then .inr (.inl (fun _ => 0)) else .inl (fun _ => 0))) else none | _ => none)
  | .anewarray t => (match st with | .int w :: r => if ¬ w < 0 ∧ w.toNatClampNeg ≤ 60000000 then some (.ref m.length :: r, .inl (t, w.toNatClampNeg, .inr (.inr (fun _ => none)))) else none | _ => none)
  | _ => none
def q_sLen : MethodName := ⟨"java/lang/String", "length", "()I"⟩
def q_sChr : MethodName := ⟨"java/lang/String", "charAt", "(I)C"⟩
/-- the resolved instruction is what the bytes and the links say -/
def q_ok2 (G : q_G) (own : String) (kd : Nat) (raw : Instr) (len : Nat) (i : Instr) (pos : Nat) : Bool := match i with
  | .getfield n => (match raw with | .getfield x => (match (q_gC G)[n / 64]? with | some (C, T, N) => decide (len = 3 ∧ n % 64 < N ∧ (T (n % 64)).1 = C ∧ q_tat G pos = some (.fieldLink own x C (T (n % 64)).2.1 (T (n % 64)).2.2.1)) | none => false) | _ => false)
  | .putfield n => (match raw with | .putfield x => (match (q_gC G)[n / 64]? with | some (C, T, N) => decide (len = 3 ∧ n % 64 < N ∧ (T (n % 64)).1 = C ∧ ((T (n % 64)).2.2.2 = false ∨ (kd = 2 ∧ C = own)) ∧ q_tat G pos = some (.fieldLink own x C (T (n % 64)).2.1 (T (n % 64)).2.2.1)) | none => false) | _ => false)
  | .iaload => decide (raw = i ∧ len = 1 ∧ (q_gA G)[0]? = some .int)
  | .laload => decide (raw = i ∧ len = 1 ∧ (q_gA G)[1]? = some .long)
  | .baload => decide (raw = i ∧ len = 1 ∧ (q_gA G)[2]? = some .byte ∧ (q_gA G)[3]? = some .boolean)
  | .aaload => decide (raw = i ∧ len = 1 ∧ ((q_gA G).drop 4).all (fun z => match z with | .object _ => true | _ => false) = true ∧ 4 < (q_gA G).length)
  | .iastore => decide (raw = i ∧ len = 1 ∧ (q_gA G)[0]? = some .int)
  | .lastore => decide (raw = i ∧ len = 1 ∧ (q_gA G)[1]? = some .long)
  | .bastore => decide (raw = i ∧ len = 1 ∧ (q_gA G)[2]? = some .byte ∧ (q_gA G)[3]? = some .boolean)
  | .aastore => decide (raw = i ∧ len = 1)
  | .arraylength => decide (raw = i ∧ len = 1)
  | .invokedynamic n => (match raw with
      | .invokespecial x => decide (n = 0 ∧ len = 3 ∧ q_tat G pos = some (.methodLink own x Lib.objectInit))
      | .invokestatic x => decide (n = 1 ∧ len = 3 ∧ (q_gA G)[0]? = some .int ∧ (q_gA G)[1]? = some .long ∧ q_tat G pos = some (.methodLink own x arraycopyName))
      | .invokevirtual x => decide (len = 3 ∧ ((n = 2 ∧ q_tat G pos = some (.methodLink own x q_sLen)) ∨ (n = 3 ∧ q_tat G pos = some (.methodLink own x q_sChr))))
      | _ => false)
  | _ => false
def q_ok3 (G : q_G) (own : String) (raw : Instr) (len : Nat) (i : Instr) (pos : Nat) : Bool := match i with
  | .new ci => (match raw with | .new x => (match (q_gC G)[ci]? with | some (C, _, _) => decide (len = 3 ∧ q_tat G pos = some (.classLink own x C)) | none => false) | _ => false)
  | .newarray a => decide (raw = i ∧ len = 2 ∧ q_tat G pos = some (.arrayClass (Op.newarray.typeOf a)) ∧ (q_gA G)[q_tag a]? = some (Op.newarray.typeOf a))
  | .anewarray t => (match raw with | .anewarray x => (match q_tat G pos with | some (.classLink o y C) => decide (len = 3 ∧ o = own ∧ y = x ∧ (q_gA G)[t]? = some (.object C)) | _ => false) | _ => false)
  | _ => false
/-- constants out of the pool -/
def q_ok5 (G : q_G) (own : String) (raw : Instr) (len : Nat) (i : Instr) (pos : Nat) : Bool := match i with
  | .sipush n => (match raw with | .ldc x => decide (len = 2 ∧ q_tat G pos = some (.constant own x (Int32.ofInt n))) | .ldc_w x => decide (len = 3 ∧ q_tat G pos = some (.constant own x (Int32.ofInt n))) | _ => false)
  | .jsr_w n => (match raw with | .ldc2_w x => decide (len = 3 ∧ q_tat G pos = some (.constantLong own x (Int64.ofInt n))) | _ => false)
  | .ldc n => (match raw with | .ldc x => (match (q_gS G)[n]? with | some z => decide (len = 2 ∧ z.1 = own ∧ z.2.1 = x) | none => false) | _ => false)
  | _ => false
def q_lk (i : Instr) (st : List Value) : Option (List Value) := match i with
  | .sipush n => some (.int (Int32.ofInt n) :: st)
  | .jsr_w n => some (.long (Int64.ofInt n) :: st)
  | .ldc n => some (.retAddr (n + 1) :: st)
  | _ => none
/-- what kind of step: 0 pure, 1 memory, 2 a new cell, 3 call or return, 4 a constant out of the pool -/
def q_grp (i : Instr) : Nat := match i with
  | .getfield _ => 1
  | .putfield _ => 1
  | .iaload => 1
  | .laload => 1
  | .baload => 1
  | .aaload => 1
  | .iastore => 1
  | .lastore => 1
  | .bastore => 1
  | .aastore => 1
  | .arraylength => 1
  | .invokedynamic _ => 1
  | .new _ => 2
  | .newarray _ => 2
  | .anewarray _ => 2
  | .ireturn => 3
  | .lreturn => 3
  | .return_ => 3
  | .invokevirtual _ => 3
  | .invokestatic _ => 3
  | .invokespecial _ => 3
  | .sipush _ => 4
  | .jsr_w _ => 4
  | .ldc _ => 4
  | _ => 0
def q_mY (M : q_MI) : MethodName := M.1
def q_mB (M : q_MI) : ByteArray := M.2.1
def q_mL (M : q_MI) : Nat := M.2.2.1
def q_mR (M : q_MI) : Option FieldType := M.2.2.2.1
def q_mC (M : q_MI) : List q_I := M.2.2.2.2.1
def q_mF (M : q_MI) : Nat := M.2.2.2.2.2.1.1
def q_mO (M : q_MI) : Nat := M.2.2.2.2.2.1.2.1
def q_mN (M : q_MI) : Nat := M.2.2.2.2.2.1.2.2.1
def q_mK (M : q_MI) : Nat := M.2.2.2.2.2.1.2.2.2
def q_mP (M : q_MI) : Nat × Nat × Nat × Nat := M.2.2.2.2.2.2
def q_lnk (G : q_G) (own : String) (x : Nat) (y : MethodName) (pos : Nat) : Bool := if pos < 100000 then decide (q_tat G pos = some (.methodLink own x y)) else (match (q_gN G)[pos - 100000]? with | some z => decide (z.1 = own ∧ z.2.1 = x ∧ z.2.2.1 = y) | none => false)
def q_ok4 (G : q_G) (own : String) (raw : Instr) (len : Nat) (i : Instr) (pos : Nat) : Bool := match i with
  | .ireturn => decide (raw = i ∧ len = 1)
  | .lreturn => decide (raw = i ∧ len = 1)
  | .return_ => decide (raw = i ∧ len = 1)
  | .invokevirtual k => (match raw with | .invokevirtual x => (match (q_gM G)[k]? with | some M => decide (len = 3 ∧ q_mK M = 0 ∧ q_tat G pos = some (.methodLink own x (q_mY M))) | none => false) | _ => false)
  | .invokestatic k => (match raw with | .invokestatic x => (match (q_gM G)[k]? with | some M => decide (len = 3 ∧ q_mK M = 1 ∧ q_lnk G own x (q_mY M) pos = true) | none => false) | _ => false)
  | .invokespecial k => (match raw with | .invokespecial x => (match (q_gM G)[k]? with | some M => decide (len = 3 ∧ q_mK M = 2 ∧ q_lnk G own x (q_mY M) pos = true) | none => false) | _ => false)
  | _ => false
def q_okI (G : q_G) (own : String) (kd : Nat) (I : q_I) : Bool := match q_grp I.2.2.2.1 with
  | 0 => q_ok1 I.2.1 I.2.2.1 I.2.2.2.1
  | 1 => q_ok2 G own kd I.2.1 I.2.2.1 I.2.2.2.1 I.2.2.2.2
  | 2 => q_ok3 G own I.2.1 I.2.2.1 I.2.2.2.1 I.2.2.2.2
  | 3 => q_ok4 G own I.2.1 I.2.2.1 I.2.2.2.1 I.2.2.2.2
  | _ => q_ok5 G own I.2.1 I.2.2.1 I.2.2.2.1 I.2.2.2.2
def q_okC (G : q_G) (M : q_MI) : Bool := (q_mC M).all (fun I => decide (decode (q_mB M) I.1 = .ok (I.2.1, I.2.2.1)) && q_okI G (q_mY M).cls (q_mK M) I)
def q_okH (G : q_G) (M : q_MI) : Bool := plainFor (q_mY M) && decide ((q_mY M).cls ≠ "java/lang/invoke/MethodHandle" ∧ (q_mY M).cls ≠ "java/lang/invoke/VarHandle" ∧ (parseMethodDescriptor (q_mY M).desc).map (fun d => d.parameters.length) = some (q_mN M))
  && decide (q_tat G (q_mP M).1 = some (.code (q_mY M) (q_mB M) (q_mL M) (q_mR M))) && decide (q_tat G (q_mP M).2.2.2 = some (.initialized (q_mY M).cls))
  && (match q_mK M with
    | 0 => decide (q_tat G (q_mP M).2.1 = some (.instanceMethod (q_mY M)) ∧ q_tat G (q_mP M).2.2.1 = some (.selects (q_mY M).cls (q_mY M) (q_mY M)))
    | 1 => decide (q_tat G (q_mP M).2.1 = some (.static (q_mY M)))
    | _ => decide (q_tat G (q_mP M).2.1 = some (.instanceMethod (q_mY M)) ∧ (q_mY M).name = "<init>" ∧ q_mR M = none))
def q_okM (G : q_G) (M : q_MI) : Prop := q_okH G M = true ∧ q_okC G M = true
def q_fd (C : List q_I) (pc : Nat) : Option q_I := match C with
  | [] => none
  | I :: C => if I.1 = pc then some I else q_fd C pc
theorem q_fd_mem : ∀ {C : List q_I} {pc : Nat} {I : q_I}, q_fd C pc = some I → I ∈ C ∧ I.1 = pc
  | [], pc, I, h => by simp [q_fd] at h
  | J :: C, pc, I, h => by
    unfold q_fd at h
    split at h
    · cases h
      exact ⟨List.mem_cons_self, by assumption⟩
    · exact ⟨List.mem_cons_of_mem _ (q_fd_mem h).1, (q_fd_mem h).2⟩
def q_na (M : q_MI) : Nat := match q_mK M with
  | 1 => q_mN M
  | _ => q_mN M + 1
def q_rcv (G : q_G) (M : q_MI) (as : List Value) (m : q_M) : Bool := match q_mK M with
  | 1 => true
  | 0 => (match as with | .ref a :: _ => (match m[a]? with | some (.inr (ci, _)) => decide ((q_gC G)[ci]?.map (fun z => z.1) = some (q_mY M).cls) | _ => false) | _ => false)
  | _ => (match as with | .ref _ :: _ => true | _ => false)
/-- a call: the method, its arguments (the object first), what stays on the stack -/
def q_call (G : q_G) (M : q_MI) (k : Nat) (st : List Value) (m : q_M) : Option (q_MI × List Value × List Value) := match (q_gM G)[k]? with
  | none => none
  | some M1 => if q_na M1 ≤ st.length ∧ q_cats (st.drop (q_na M1)) ≤ 8 ∧ q_mF M1 + 1 ≤ q_mF M ∧ 8 + (q_mL M1 + 11) + q_mO M1 ≤ q_mO M ∧ q_cats (st.take (q_na M1)) ≤ q_mL M1 ∧ q_rcv G M1 (st.take (q_na M1)).reverse m = true
    then some (M1, (st.take (q_na M1)).reverse, st.drop (q_na M1)) else none
/-- what a method gives back, by its last instruction -/
def q_retn (M : q_MI) (i : Instr) (st : List Value) : Option (Option Value) := match i with
  | .ireturn => (match st with | [.int v] => (match q_mR M with | some ty => if narrow ty (.int v) = .int v then some (some (.int v)) else none | none => none) | _ => none)
  | .lreturn => (match st with | [.long v] => if q_mR M = some .long then some (some (.long v)) else none | _ => none)
  | .return_ => (match st with | [] => if q_mR M = none then some none else none | _ => none)
  | _ => none
def q_cnum (i : Instr) : Option Nat := match i with
  | .invokevirtual k => some k
  | .invokestatic k => some k
  | .invokespecial k => some k
  | _ => none
/-- the pure machine: n steps at most, calls and all -/
def q_run (G : q_G) : Nat → q_MI → Nat → q_L → List Value → q_M → Option (Option Value × q_M)
  | 0, _, _, _, _, _ => none
  | n + 1, M, pc, l, st, m => match q_fd (q_mC M) pc with
    | none => none
    | some (_, _, len, i, _) => match q_grp i with
      | 0 => (match q_pure (q_mL M) pc len i l st with | some (pc1, l1, st1) => q_run G n M pc1 l1 st1 m | none => none)
      | 1 => (match q_mem G (q_mF M) (q_mO M) i st m with | some (st1, m1) => q_run G n M (pc + len) l st1 m1 | none => none)
      | 2 => (match q_new G i st m with | some (st1, x) => q_run G n M (pc + len) l st1 (m ++ [x]) | none => none)
      | 3 => (match q_cnum i with
          | some k => (match q_call G M k st m with
              | some (M1, as, rest) => (match q_run G n M1 0 (lv_args 0 as) [] m with | some (r, m1) => q_run G n M (pc + len) l (r.toList ++ rest) m1 | none => none)
              | none => none)
          | none => (match q_retn M i st with | some r => some (r, m) | none => none))
      | _ => (match q_lk i st with | some st1 => q_run G n M (pc + len) l st1 m | none => none)
end
section
section QMEM
variable {p : Program} {l : Launch} {e : Env} {R : Room} {s : State} {m : MethodId} {args : Array Value} {below : List Frame} {meth : Method} {c : Code} {H : Heap} {locs : List Loc} {cells slots : Nat} {Q : State → Prop}
variable {cc : ByteArray} {pc : Nat} {ls : Array Slot} {G : q_G} {D : va_G} {bs : Nat} {tc : Nat → ClassId}
theorem q_sized {g : JFrame} (k : H.size ≤ s.heap.size + cells → W p l e R s m args below meth c H locs cells slots Q g) : W p l e R s m args below meth c H locs cells slots Q g := fun T hT X => k (by rw [← hT]; exact X.heapSize) T hT X
theorem q_low {cl : List vw_C} {q q0 : q_M} {H0 : Heap} (hw : va_P D cl (q_cw bs tc q) H) (hS : va_S (fun z => bs ≤ z) H0 H locs) (h0 : H0.size = bs + q0.length) : bs + q.length ≤ H.size := by
  by_cases hq : q.length = 0
  · have := hS.1
    omega
  · have hk : q.length - 1 < q.length := by omega
    have h1 := (hw (q.length - 1) _ (q_cw_get (bs := bs) (tc := tc) (List.getElem?_eq_getElem hk))).lt
    simp only at h1
    omega
theorem q_Wset {cl : List vw_C} {q : q_M} {k : Nat} {x : q_E} (h : va_P D cl ((q_cw bs tc q).set k (bs + k, q_ce bs tc x)) H) : q_Wd D cl bs tc (q.set k x) H := by
  rw [q_cw_set] at h
  exact h
theorem q_memW (hx : p.tables.exec = Jvm.exec) (hb : c.code = cc) (hml : c.maxLocals = ls.size) (hV : q_GV G) {own : String} {kd : Nat} (hown : s.vm.findClass own = some m.cls) (hts : ∀ w ∈ q_T G, w.before args s = true) (hK : va_K D (q_gC G) (q_tyl G tc) s) (hini : kd = 2 → meth.name = "<init>")
    {len pos : Nat} {raw i : Instr} {st st' : List Value} {q q' : q_M} (hd : decode cc pc = .ok (raw, len)) (ho : q_ok2 G own kd raw len i pos = true)
    (hw : q_Wd D (q_gC G) bs tc q H) (hS : va_S (fun z => bs ≤ z) s.heap H locs)
    (h : q_mem G R.frames R.locals i st q = some (st', q'))
    (kk : ∀ (H1 : Heap) (locs1 : List Loc), q_Wd D (q_gC G) bs tc q' H1 → va_S (fun z => bs ≤ z) s.heap H1 locs1 → W p l e R s m args below meth c H1 locs1 cells slots Q (F0 m (pc + len) ls (st'.map (q_cv bs)))) : W p l e R s m args below meth c H locs cells slots Q (F0 m pc ls (st.map (q_cv bs))) := by
  have hD := q_cw_D (bs := bs) (tc := tc) (m := q)
  unfold q_mem at h
  split at h
  · -- getfield
    rename_i n
    simp only [q_ok2] at ho
    split at ho
    rotate_left
    · cases ho
    rename_i x
    split at ho
    rotate_left
    · cases ho
    rename_i C T N hc
    simp only [decide_eq_true_eq] at ho
    obtain ⟨rfl, hk, hC, hl⟩ := ho
    split at h
    rotate_left
    · cases h
    split at h
    rotate_left
    · cases h
    rename_i ci fs hm
    split at h
    rotate_left
    · cases h
    rename_i hci
    subst hci
    split at h
    rotate_left
    · cases h
    rename_i v hv
    cases h
    have hq := q_cw_get (bs := bs) (tc := tc) hm
    refine va_get hx hb hts (hV.1 _ _ _ _ hc).1 hown hK hw _ hq hc (n % 64) hk (hts _ (q_T_at hl rfl)) (fun z hz => by rw [hC] at hz; exact hz) (v := q_cv bs v) (by simp [List.getElem?_map, hv]) hd ?_
    exact kk H locs hw hS
  · -- putfield
    rename_i n
    simp only [q_ok2] at ho
    split at ho
    rotate_left
    · cases ho
    rename_i x
    split at ho
    rotate_left
    · cases ho
    rename_i C T N hc
    simp only [decide_eq_true_eq] at ho
    obtain ⟨rfl, hk, hC, hf, hl⟩ := ho
    split at h
    rotate_left
    · cases h
    split at h
    rotate_left
    · cases h
    rename_i v k r _ ci fs hm
    split at h
    rotate_left
    · cases h
    rename_i hci
    obtain ⟨hci, hlen, hn, hfit⟩ := hci
    subst hci
    cases h
    have hq := q_cw_get (bs := bs) (tc := tc) hm
    have hG := hV.1 _ _ _ _ hc
    have e1 : (q_cw bs tc q).set k (bs + k, .inr (n / 64, (fs.map (q_cv bs)).set (n % 64) (q_cv bs v))) = q_cw bs tc (q.set k (.inr (n / 64, fs.set (n % 64) v))) := by
      rw [← q_cw_set]
      simp [q_ce, List.map_set]
    have fin : ∀ (H1 : Heap) (locs1 : List Loc), va_P D (q_gC G) ((q_cw bs tc q).set k (bs + k, .inr (n / 64, (fs.map (q_cv bs)).set (n % 64) (q_cv bs v)))) H1 → va_D (fun z => bs ≤ z) ((q_cw bs tc q).set k (bs + k, .inr (n / 64, (fs.map (q_cv bs)).set (n % 64) (q_cv bs v)))) → va_S (fun z => bs ≤ z) s.heap H1 locs1 → W p l e R s m args below meth c H1 locs1 cells slots Q (F0 m (pc + 3) ls (st'.map (q_cv bs))) := fun H1 locs1 a1 _ a3 => kk H1 locs1 (by show va_P _ _ _ _; rw [← e1]; exact a1) a3
    by_cases hfin : (T (n % 64)).2.2.2 = false
    · exact va_put hx hb hts hG.1 (q_gY G (n / 64)) hG.2.1 hG.2.2.1 hown hK hw hD hS k hq hc (n % 64) hk (hts _ (q_T_at hl rfl)) (fun z hz => by rw [hC] at hz; exact hz) hfin (hG.2.1 _ hk) (v := q_cv bs v) (by rw [q_cv_narrow, hn]) (q_cv_fits bs _ v hfit) (by simpa using hlen) hd fin
    · rcases hf with hf | hf
      · exact absurd hf hfin
      · exact va_putF hx hb hts hG.1 (q_gY G (n / 64)) hG.2.1 hG.2.2.1 hown hK hw hD hS k hq hc (n % 64) hk (hts _ (q_T_at hl rfl)) (fun z hz => by rw [hC] at hz; exact hz) (by simpa using hfin) (hini hf.1) (by rw [hC]; exact hf.2) (hG.2.1 _ hk) (v := q_cv bs v) (by rw [q_cv_narrow, hn]) (q_cv_fits bs _ v hfit) (by simpa using hlen) hd fin
  · -- iaload
    simp only [q_ok2, decide_eq_true_eq] at ho
    obtain ⟨rfl, rfl, hA⟩ := ho
    split at h
    rotate_left
    · cases h
    split at h
    rotate_left
    · cases h
    rename_i j k r _ t n f hm
    split at h
    rotate_left
    · cases h
    rename_i hc
    obtain ⟨rfl, hin⟩ := hc
    cases h
    exact va_iald hx hb hK hw k 0 (q_cw_get (bs := bs) (tc := tc) hm) (q_tyl_get hA) (q_in_vp hin) hd (kk H locs hw hS)
  · -- laload
    simp only [q_ok2, decide_eq_true_eq] at ho
    obtain ⟨rfl, rfl, hA⟩ := ho
    split at h
    rotate_left
    · cases h
    split at h
    rotate_left
    · cases h
    rename_i j k r _ t n f hm
    split at h
    rotate_left
    · cases h
    rename_i hc
    obtain ⟨rfl, hin⟩ := hc
    cases h
    exact va_lald hx hb hK hw k 1 (q_cw_get (bs := bs) (tc := tc) hm) (q_tyl_get hA) (q_in_vp hin) hd (kk H locs hw hS)
  · -- baload
    simp only [q_ok2, decide_eq_true_eq] at ho
    obtain ⟨rfl, rfl, hA, hA2⟩ := ho
    split at h
    rotate_left
    · cases h
    split at h
    rotate_left
    · cases h
    rename_i j k r _ t n f hm
    split at h
    rotate_left
    · cases h
    rename_i hc
    obtain ⟨ht, hin⟩ := hc
    cases h
    rcases ht with rfl | rfl
    · exact va_bald hx hb hK hw k 2 (q_cw_get (bs := bs) (tc := tc) hm) (q_tyl_get hA) (q_in_vp hin) hd (kk H locs hw hS)
    · exact va_zald hx hb hK hw k 3 (q_cw_get (bs := bs) (tc := tc) hm) (q_tyl_get hA2) (q_in_vp hin) hd (kk H locs hw hS)
  · -- aaload
    simp only [q_ok2, decide_eq_true_eq] at ho
    obtain ⟨rfl, rfl, hA, hA2⟩ := ho
    split at h
    rotate_left
    · cases h
    split at h
    rotate_left
    · cases h
    rename_i j k r _ t n f hm
    split at h
    rotate_left
    · cases h
    rename_i hc
    obtain ⟨ht, hin, ht2⟩ := hc
    cases h
    obtain ⟨C, hC⟩ : ∃ C, (q_gA G)[t]? = some (.object C) := by
      have hz : (q_gA G)[t]? = some ((q_gA G)[t]) := List.getElem?_eq_getElem ht2
      have hmem : (q_gA G)[t] ∈ (q_gA G).drop 4 := by
        refine List.mem_of_getElem? (i := t - 4) ?_
        rw [List.getElem?_drop, show 4 + (t - 4) = t by omega]
        exact hz
      have hall := List.all_eq_true.mp hA _ hmem
      split at hall
      · rename_i C hC
        exact ⟨C, by rw [hz, hC]⟩
      · cases hall
    refine va_aldq hx hb hK hw k t (q_cw_get (bs := bs) (tc := tc) hm) (q_tyl_get hC) (q_in_vp hin) hd ?_
    have e2 : va_rf ((f j.toNatClampNeg).map (fun z => bs + z)) = q_cv bs (va_rf (f j.toNatClampNeg)) := by
      cases f j.toNatClampNeg <;> rfl
    rw [e2]
    exact kk H locs hw hS
  · -- iastore
    simp only [q_ok2, decide_eq_true_eq] at ho
    obtain ⟨rfl, rfl, hA⟩ := ho
    split at h
    rotate_left
    · cases h
    split at h
    rotate_left
    · cases h
    rename_i x j k r _ t n f hm
    split at h
    rotate_left
    · cases h
    rename_i hc
    obtain ⟨rfl, hin⟩ := hc
    cases h
    exact va_iast hx hb hK hw hD hS k 0 (q_cw_get (bs := bs) (tc := tc) hm) (q_tyl_get hA) (q_in_vp hin) hd (fun H1 locs1 a1 _ a3 => kk H1 locs1 (q_Wset a1) a3)
  · -- lastore
    simp only [q_ok2, decide_eq_true_eq] at ho
    obtain ⟨rfl, rfl, hA⟩ := ho
    split at h
    rotate_left
    · cases h
    split at h
    rotate_left
    · cases h
    rename_i x j k r _ t n f hm
    split at h
    rotate_left
    · cases h
    rename_i hc
    obtain ⟨rfl, hin⟩ := hc
    cases h
    exact va_last hx hb hK hw hD hS k 1 (q_cw_get (bs := bs) (tc := tc) hm) (q_tyl_get hA) (q_in_vp hin) hd (fun H1 locs1 a1 _ a3 => kk H1 locs1 (q_Wset a1) a3)
  · -- bastore
    simp only [q_ok2, decide_eq_true_eq] at ho
    obtain ⟨rfl, rfl, hA, hA2⟩ := ho
    split at h
    rotate_left
    · cases h
    split at h
    rotate_left
    · cases h
    rename_i x j k r _ t n f hm
    split at h
    · rename_i hc
      obtain ⟨rfl, hin⟩ := hc
      cases h
      exact va_bast hx hb hK hw hD hS k 2 (q_cw_get (bs := bs) (tc := tc) hm) (q_tyl_get hA) (q_in_vp hin) hd (fun H1 locs1 a1 _ a3 => kk H1 locs1 (q_Wset a1) a3)
    · split at h
      rotate_left
      · cases h
      rename_i hc
      obtain ⟨rfl, hin⟩ := hc
      cases h
      exact va_zast hx hb hK hw hD hS k 3 (q_cw_get (bs := bs) (tc := tc) hm) (q_tyl_get hA2) (q_in_vp hin) hd (fun H1 locs1 a1 _ a3 => kk H1 locs1 (q_Wset a1) a3)
  · -- aastore
    simp only [q_ok2, decide_eq_true_eq] at ho
    obtain ⟨rfl, rfl⟩ := ho
    split at h
    rotate_left
    · cases h
    split at h
    rotate_left
    · cases h
    rename_i v j k r _ t n f hm
    split at h
    rotate_left
    · cases h
    rename_i _ ci vs hmv
    split at h
    rotate_left
    · cases h
    rename_i hc
    obtain ⟨ht, hin, hC, hC2⟩ := hc
    cases h
    cases hci : (q_gC G)[ci]? with
    | none =>
      rw [hci] at hC
      rw [← hC] at hC2
      cases hC2
    | some z =>
      rw [hci] at hC
      refine va_astq hx hb hK hw hD hS k t v ci (r := z) (q_cw_get (bs := bs) (tc := tc) hm) (q_tyl_get hC.symm) (q_cw_get (bs := bs) (tc := tc) hmv) hci (q_in_vp hin) hd (fun H1 locs1 a1 _ a3 => kk H1 locs1 ?_ a3)
      have e3 : (fun y => (va_up f j.toNatClampNeg (some v) y).map (fun z => bs + z)) = va_up (fun y => (f y).map (fun z => bs + z)) j.toNatClampNeg (some (bs + v)) := by
        funext y
        simp only [va_up]
        split <;> rfl
      refine q_Wset ?_
      simp only [q_ce, e3]
      exact a1
  · -- arraylength
    simp only [q_ok2, decide_eq_true_eq] at ho
    obtain ⟨rfl, rfl⟩ := ho
    split at h
    rotate_left
    · cases h
    split at h
    rotate_left
    · cases h
    rename_i k r _ t n f hm
    split at h
    rotate_left
    · cases h
    rename_i hc
    cases h
    have hty := q_tyl_get (G := G) (tc := tc) (List.getElem?_eq_getElem hc)
    have hq := q_cw_get (bs := bs) (tc := tc) hm
    rcases f with f | f | f
    · exact va_alen hx hb hK hw k t hq hty rfl hd (kk H locs hw hS)
    · exact va_alen hx hb hK hw k t hq hty rfl hd (kk H locs hw hS)
    · exact va_alen hx hb hK hw k t hq hty rfl hd (kk H locs hw hS)
  · -- Object's own start, a row copied
    simp only [q_ok2] at ho
    split at h
    · rename_i n hn
      subst hn
      split at ho
      · simp only [decide_eq_true_eq] at ho
        obtain ⟨-, rfl, hl⟩ := ho
        split at h
        rotate_left
        · cases h
        split at h
        rotate_left
        · cases h
        rename_i hc
        cases h
        exact W.objInit hx hb hown (hts _ (q_T_at hl rfl)) (hts _ (hV.2 _ (by simp [q_sys]))) (hts _ (hV.2 _ (by simp [q_sys]))) rfl hml.symm rfl hd hc.1 (by
          rw [q_cats_cv]
          have := hc.2
          simpa [JFrame.monitorRoom] using this) (kk H locs hw hS)
      · simp only [decide_eq_true_eq] at ho
        exact absurd ho.1 (by decide)
      · simp only [decide_eq_true_eq] at ho
        rcases ho with ⟨-, ⟨h9, -⟩ | ⟨h9, -⟩⟩ <;> exact absurd h9 (by decide)
      · cases ho
    · split at h
      rotate_left
      · sorry
      rename_i n hn0 hn
      subst hn
      split at ho
      · simp only [decide_eq_true_eq] at ho
        exact absurd ho.1 (by decide)
      · simp only [decide_eq_true_eq] at ho
        obtain ⟨-, rfl, hA0, hA1, hl⟩ := ho
        unfold q_copy at h
        split at h
        rotate_left
        · cases h
        rename_i w dp k sp j r
        split at h
        rotate_left
        · cases h
        rename_i hc
        obtain ⟨hfr, hlo, hsp, hdp, hw0⟩ := hc
        have hlo2 : ((r.map (q_cv bs)).map fun v => v.category).sum + (nativeFrameWords "java/lang/System" "arraycopy" 5 + 11) ≤ R.locals := by
          rw [q_cats_cv]
          have e9 : nativeFrameWords "java/lang/System" "arraycopy" 5 = 7 := by decide +kernel
          omega
        unfold q_cpy at h
        split at h
        · rename_i t0 n0 f t1 n1 g hj hk
          split at h
          rotate_left
          · cases h
          rename_i hc
          obtain ⟨rfl, rfl, h4, h5⟩ := hc
          cases h
          exact va_copyi hx hb hml hown (hts _ (q_T_at hl rfl)) (hts _ (hV.2 _ (by simp [q_sys]))) (hts _ (hV.2 _ (by simp [q_sys]))) (hts _ (hV.2 _ (by simp [q_sys]))) hK hw hD hS j k 0 0 (ty := .int) (q_cw_get (bs := bs) (tc := tc) hj) (q_cw_get (bs := bs) (tc := tc) hk) (q_tyl_get hA0) (q_tyl_get hA0) rfl hsp hdp hw0 h4 h5 (fun _ _ => rfl) hfr hlo2 hd (fun H1 locs1 a1 _ a3 => kk H1 locs1 (q_Wset a1) a3)
        · rename_i t0 n0 f t1 n1 g hj hk
          split at h
          rotate_left
          · cases h
          rename_i hc
          obtain ⟨rfl, rfl, h4, h5⟩ := hc
          cases h
          exact va_copyl hx hb hml hown (hts _ (q_T_at hl rfl)) (hts _ (hV.2 _ (by simp [q_sys]))) (hts _ (hV.2 _ (by simp [q_sys]))) (hts _ (hV.2 _ (by simp [q_sys]))) hK hw hD hS j k 1 1 (ty := .long) (q_cw_get (bs := bs) (tc := tc) hj) (q_cw_get (bs := bs) (tc := tc) hk) (q_tyl_get hA1) (q_tyl_get hA1) rfl hsp hdp hw0 h4 h5 (fun _ _ => rfl) hfr hlo2 hd (fun H1 locs1 a1 _ a3 => kk H1 locs1 (q_Wset a1) a3)
        · cases h
      · simp only [decide_eq_true_eq] at ho
        rcases ho with ⟨-, ⟨h9, -⟩ | ⟨h9, -⟩⟩ <;> exact absurd h9 (by decide)
      · cases ho
  · cases h
end QMEM
end
section
section QNEW
variable {p : Program} {l : Launch} {e : Env} {R : Room} {s : State} {m : MethodId} {args : Array Value} {below : List Frame} {meth : Method} {c : Code} {H : Heap} {locs : List Loc} {cells slots : Nat} {Q : State → Prop}
variable {cc : ByteArray} {pc : Nat} {ls : Array Slot} {G : q_G} {D : va_G} {bs : Nat} {tc : Nat → ClassId}
theorem q_pushed {cl : List vw_C} {q : q_M} {x : q_E} {H1 : Heap} (hw : q_Wd D cl bs tc q H) (hz : H.size = bs + q.length) (e1 : va_at D cl (H.size, q_ce bs tc x) H1) (o1 : ∀ z, z < H.size → H1[z]? = H[z]?) : q_Wd D cl bs tc (q ++ [x]) H1 := by
  show va_P _ _ _ _
  rw [← q_cw_push]
  refine (va_P.kept hw (fun k y hy => o1 y.1 ((hw k y hy).lt))).app (fun k y hy => ?_)
  have hk : k < 1 := (List.getElem?_eq_some_iff.mp hy).1
  rw [show k = 0 by omega] at hy
  cases hy
  rw [← hz]
  exact e1
theorem q_grown {H0 H1 : Heap} (hS : va_S (fun z => bs ≤ z) H0 H locs) (z1 : H1.size = H.size + 1) (o1 : ∀ z, z < H.size → H1[z]? = H[z]?) : va_S (fun z => bs ≤ z) H0 H1 locs :=
  ⟨Nat.le_trans hS.1 (by omega), fun x h1 h2 => (o1 x (Nat.lt_of_lt_of_le h1 hS.1)).trans (hS.2.1 x h1 h2), hS.2.2⟩
theorem q_newW (hx : p.tables.exec = Jvm.exec) (hb : c.code = cc) (hV : q_GV G) {own : String} (hown : s.vm.findClass own = some m.cls) (hts : ∀ w ∈ q_T G, w.before args s = true) (hK : va_K D (q_gC G) (q_tyl G tc) s)
    (hAO : ∀ (t : Nat) (C : String), (q_gA G)[t]? = some (.object C) → va_AO C s)
    {len pos : Nat} {raw i : Instr} {st st' : List Value} {q : q_M} {x : q_E} (hd : decode cc pc = .ok (raw, len)) (ho : q_ok3 G own raw len i pos = true)
    (hw : q_Wd D (q_gC G) bs tc q H) (hS : va_S (fun z => bs ≤ z) s.heap H locs) (hz : H.size = bs + q.length)
    (h : q_new G i st q = some (st', x)) (hc1 : cells + 1 ≤ R.cells) (hc2 : slots + q_sz x ≤ R.slots)
    (kk : ∀ (H1 : Heap), q_Wd D (q_gC G) bs tc (q ++ [x]) H1 → va_S (fun z => bs ≤ z) s.heap H1 locs → W p l e R s m args below meth c H1 locs (cells + 1) (slots + q_sz x) Q (F0 m (pc + len) ls (st'.map (q_cv bs)))) : W p l e R s m args below meth c H locs cells slots Q (F0 m pc ls (st.map (q_cv bs))) := by
  unfold q_new at h
  split at h
  · -- new
    rename_i ci
    simp only [q_ok3] at ho
    split at ho
    rotate_left
    · cases ho
    split at ho
    rotate_left
    · cases ho
    rename_i C T N hc
    simp only [decide_eq_true_eq] at ho
    obtain ⟨rfl, hl⟩ := ho
    rw [hc] at h
    cases h
    have hKn := hK.1 ci _ hc
    have hG := hV.1 _ _ _ _ hc
    have hN : q_sz (.inr (ci, (List.range N).map (fun k => defaultValue (q_gY G ci k)))) = N := by simp [q_sz]
    rw [hN] at hc2 kk
    refine W.newcK hx hb hown (hts _ (q_T_at hl rfl)) (hts _ hG.2.2.2.1) (hts _ hG.2.2.2.2) rfl hd hc1 hc2 hKn.2.1 rfl fun H1 kC hkC e1 z1 o1 => ?_
    have K := kk H1 (q_pushed hw hz ⟨_, hc, (u_born (q_gY G ci) hts hG.1 hKn hkC e1 hG.2.1).to (fun k hk => by
      have : ¬ N ≤ k := by omega
      simp only [vp_V, List.getD_eq_getElem?_getD, List.getElem?_map, List.getElem?_range hk]
      simp only [Option.map_some, Option.getD_some]
      cases q_gY G ci k <;> rfl)⟩ o1) (q_grown hS z1 o1)
    simp only [List.map_cons, q_cv] at K
    rw [← hz] at K
    exact K
  · -- newarray
    rename_i a
    simp only [q_ok3, decide_eq_true_eq] at ho
    obtain ⟨rfl, rfl, hl, hA⟩ := ho
    split at h
    rotate_left
    · cases h
    rename_i w r
    split at h
    rotate_left
    · cases h
    rename_i hw3
    obtain ⟨hw0, hw1, hw2⟩ := hw3
    cases h
    have hbytes : w.toNatClampNeg * componentBytes (Op.newarray.typeOf a) ≤ 536870912 := by
      have : componentBytes (Op.newarray.typeOf a) ≤ 8 := by cases a <;> decide
      have := Nat.mul_le_mul hw1 this
      omega
    have hty := hK.2 (q_tag a) _ (q_tyl_get hA)
    refine va_newaK hx hb (hts _ (q_T_at hl rfl)) rfl hd rfl hw0 rfl hbytes hc1 hc2 rfl fun H1 cA e1 z1 o1 hAr hNm => ?_
    have hcA : tc (q_tag a) = cA := by
      have h9 := hty.2
      cases a <;> first | exact absurd hw2 (by decide) | exact Option.some.inj (h9.symm.trans hNm)
    subst hcA
    have K := kk H1 (q_pushed hw hz (by
      cases a <;> first | exact absurd hw2 (by decide) | exact e1) o1) (q_grown hS z1 o1)
    simp only [List.map_cons, q_cv] at K
    rw [← hz] at K
    exact K
  · -- anewarray
    rename_i t
    simp only [q_ok3] at ho
    split at ho
    rotate_left
    · cases ho
    split at ho
    rotate_left
    · cases ho
    rename_i o y C hl
    simp only [decide_eq_true_eq] at ho
    obtain ⟨rfl, rfl, rfl, hA⟩ := ho
    split at h
    rotate_left
    · cases h
    rename_i w r
    split at h
    rotate_left
    · cases h
    rename_i hw3
    obtain ⟨hw0, hw1⟩ := hw3
    cases h
    have hty := hK.2 t _ (q_tyl_get hA)
    obtain ⟨kA0, comp0, g1, g2, g3, g4⟩ := hty.2
    refine W.anew hx hb hown (hts _ (q_T_at hl rfl)) (va_AO.use (hAO t C hA)) rfl hd rfl hw0 (by omega) hc1 hc2 fun cA kA comp f1 f2 f3 f4 => ?_
    have hcA : tc t = cA := Option.some.inj (g4.symm.trans f1)
    subst hcA
    have e1 : va_at D (q_gC G) (H.size, q_ce bs tc (.inl (t, w.toNatClampNeg, .inr (.inr (fun _ => none))))) (H.push { cls := tc t, slots := Array.replicate w.toNatClampNeg .null, vm := .none }) := by
      show (H.push _)[H.size]? = some (vp_cell _ _)
      simp only [Array.getElem?_push_size, vp_cell, Option.map_none, va_rf]
      rw [← arrV_new]
    have o1 : ∀ z, z < H.size → (H.push { cls := tc t, slots := Array.replicate w.toNatClampNeg .null, vm := .none })[z]? = H[z]? := fun z hz9 => by rw [Array.getElem?_push, if_neg (Nat.ne_of_lt hz9)]
    have K := kk _ (q_pushed hw hz e1 o1) (q_grown hS (by simp) o1)
    simp only [List.map_cons, q_cv] at K
    rw [← hz] at K
    exact K
  · cases h
end QNEW
end
section
theorem q_setz {q : q_M} {k : Nat} {x y : q_E} (h : q[k]? = some x) (hs : q_sz y = q_sz x) : (q.set k y).length = q.length ∧ q_sl (q.set k y) = q_sl q := ⟨List.length_set, q_sl_set h hs⟩
theorem q_mem_sz {G : q_G} {fr lo : Nat} {i : Instr} {st st1 : List Value} {q q1 : q_M} (h : q_mem G fr lo i st q = some (st1, q1)) : q1.length = q.length ∧ q_sl q1 = q_sl q := by
  unfold q_mem at h
  repeat' split at h
  all_goals first
    | (cases h; done)
    | (cases h; exact ⟨rfl, rfl⟩)
    | (cases h; refine q_setz (by assumption) ?_; first | rfl | simp [q_sz])
    | skip
  unfold q_copy at h
  repeat' split at h
  all_goals first
    | (cases h; done)
    | skip
  unfold q_cpy at h
  repeat' split at h
  all_goals first
    | (cases h; done)
    | (cases h; refine q_setz (by assumption) ?_; first | rfl | simp [q_sz])
theorem q_mono {G : q_G} : ∀ (n : Nat) (M : q_MI) (pc : Nat) (lv : q_L) (st : List Value) (q : q_M) (r : Option Value) (qF : q_M), q_run G n M pc lv st q = some (r, qF) → q.length ≤ qF.length ∧ q_sl q ≤ q_sl qF
  | 0, _, _, _, _, _, _, _, h => by simp [q_run] at h
  | n + 1, M, pc, lv, st, q, r, qF, h => by
    unfold q_run at h
    split at h
    · cases h
    · split at h
      · split at h
        · exact q_mono n _ _ _ _ _ _ _ h
        · cases h
      · split at h
        · rename_i h1
          have h2 := q_mono n _ _ _ _ _ _ _ h
          have h3 := q_mem_sz h1
          rw [h3.1, h3.2] at h2
          exact h2
        · cases h
      · split at h
        · have h2 := q_mono n _ _ _ _ _ _ _ h
          rw [q_sl_push, List.length_append] at h2
          exact ⟨by omega, by omega⟩
        · cases h
      · split at h
        · split at h
          · split at h
            · rename_i h1
              have h2 := q_mono n _ _ _ _ _ _ _ h
              have h3 := q_mono n _ _ _ _ _ _ _ h1
              exact ⟨by omega, by omega⟩
            · cases h
          · cases h
        · split at h
          · cases h
            exact ⟨Nat.le_refl _, Nat.le_refl _⟩
          · cases h
      · split at h
        · exact q_mono n _ _ _ _ _ _ _ h
        · cases h
def q_Nst (G : q_G) (U : State) : Prop := (∀ z ∈ q_gN G, va_Nw (.methodLinkNest z.1 z.2.1 z.2.2.1 z.2.2.2) U) ∧ (∀ (t : Nat) (C : String), (q_gA G)[t]? = some (.object C) → va_AO C U)
theorem q_Nst_warm {G : q_G} {s U : State} (hW : s.WarmedH U.vm) (h : q_Nst G s) : q_Nst G U := ⟨fun z hz => va_Nw.warmM hW (h.1 z hz), fun t C ht => va_AO.moved hW.alike (h.2 t C ht)⟩
theorem q_Nst_same {G : q_G} {u U : State} (e : u.vm = U.vm) (h : q_Nst G u) : q_Nst G U := ⟨fun z hz => va_Nw.same rfl e (h.1 z hz), fun t C ht => va_AO.moved (by rw [e]; exact Vm.Alike.refl _) (h.2 t C ht)⟩
def q_Pc (G : q_G) (D : va_G) (bs : Nat) (tc : Nat → ClassId) (as : List Value) (q : q_M) : Array Value → State → Prop := fun v U => v = (as.map (q_cv bs)).toArray ∧ U.heap.size = bs + q.length ∧ q_Wd D (q_gC G) bs tc q U.heap ∧ va_K D (q_gC G) (q_tyl G tc) U ∧ q_Nst G U
def q_Qc (G : q_G) (D : va_G) (bs : Nat) (tc : Nat → ClassId) (r : Option Value) (q : q_M) : Array Value → State → Outcome → State → Prop := fun _ st o t => o = .returned (r.map (q_cv bs)) ∧ q_Wd D (q_gC G) bs tc q t.heap ∧ va_F (fun z => bs ≤ z) st t
def q_ws (G : q_G) (M : q_MI) : List Cond := .code (q_mY M) (q_mB M) (q_mL M) (q_mR M) :: q_T G
theorem q_blind {G : q_G} {D : va_G} {bs : Nat} {tc : Nat → ClassId} {as : List Value} {q : q_M} : FrameBlind (q_Pc G D bs tc as q) := fun a U g mk h => by
  obtain ⟨h1, h2, h3, h4, h5⟩ := h
  exact ⟨h1, h2, h3, va_K.moved (u := U) (U := U.calling g mk a) (Vm.Alike.refl U.vm) h4, q_Nst_same rfl h5⟩
theorem q_args_cl (bs : Nat) : ∀ (as : List Value) (i : Nat), lv_args i (as.map (q_cv bs)) = q_cl bs (lv_args i as)
  | [], i => rfl
  | v :: as, i => by
    simp only [List.map_cons, lv_args, q_cv_cat]
    rw [q_args_cl bs as]
    rfl
theorem q_sl_len (bs : Nat) : ∀ (as : List Value), (lg_sl (as.map (q_cv bs))).length = q_cats as
  | [] => rfl
  | v :: as => by
    have ih := q_sl_len bs as
    simp only [lg_sl, List.map_cons, List.flatMap_cons, List.length_append, q_cats, List.sum_cons, q_cv_cat] at ih ⊢
    rw [ih]
    rcases lv_cat v with h | h <;> simp [h]
section QCALL
variable {p : Program} {l : Launch} {e : Env} {R : Room} {s : State} {m : MethodId} {args : Array Value} {below : List Frame} {meth : Method} {c : Code} {H : Heap} {locs : List Loc} {cells slots : Nat} {Q : State → Prop}
variable {pc : Nat} {ls : Array Slot} {G : q_G} {D : va_G} {bs : Nat} {tc : Nat → ClassId}
theorem q_callW {mc ms : Nat} {st0 rest : List Value} {r1 : Option Value} {q1 : q_M} {a : Array Value} (hr : va_Run p l e R s m args below meth c H locs cells slots mc ms (F0 m pc ls st0) rest (q_Qc G D bs tc r1 q1 a) (fun z => bs ≤ z)) (hS : va_S (fun z => bs ≤ z) s.heap H locs)
    (kk : ∀ (H1 : Heap) (locs1 : List Loc), q_Wd D (q_gC G) bs tc q1 H1 → va_S (fun z => bs ≤ z) s.heap H1 locs1 → W p l e R s m args below meth c H1 locs1 (cells + mc) (slots + ms) Q (F0 m (pc + 3) ls ((r1.map (q_cv bs)).toList ++ rest))) : W p l e R s m args below meth c H locs cells slots Q (F0 m pc ls st0) := by
  intro T hT X
  obtain ⟨v, st₀, t, T', L, h0, X', hL, e1, e2, ⟨hv, hb, hz, hk⟩, st⟩ := hr T hT X
  cases hv
  rw [h0] at hz hk
  obtain ⟨t2, a1, b1⟩ := kk T'.heap (locs ++ L) (by rw [e1]; exact hb)
    ⟨Nat.le_trans hS.1 (by rw [e1]; exact hz), fun z h1 h2 => by rw [e1, hk z (Nat.lt_of_lt_of_le h1 hS.1) h2]; exact hS.2.1 z h1 h2, fun z hz => by
      rcases List.mem_append.mp hz with h | h
      · exact hS.2.2 z h
      · exact hL z h⟩ T' rfl X'
  exact ⟨t2, st t2 a1, b1⟩
end QCALL
end
section
def q_Cx (G : q_G) (D : va_G) (bs : Nat) (tc : Nat → ClassId) (M : q_MI) (q0 qF : q_M) (p : Program) (R : Room) (s : State) (m : MethodId) (args : Array Value) (meth : Method) (c : Code) : Prop :=
  p.tables.exec = Jvm.exec ∧ c.code = q_mB M ∧ c.maxLocals = q_mL M ∧ s.vm.findClass (q_mY M).cls = some m.cls ∧ (∀ w ∈ q_T G, w.before args s = true) ∧ va_K D (q_gC G) (q_tyl G tc) s ∧ q_Nst G s ∧ meth.sig.returnType = q_mR M ∧ meth.locks = false ∧ (q_mK M = 2 → meth.name = "<init>") ∧ s.heap.size = bs + q0.length
  ∧ R = ({ frames := q_mF M, cells := qF.length - q0.length, slots := q_sl qF - q_sl q0, locals := q_mO M } : Room)
def q_Dx (G : q_G) (D : va_G) (bs : Nat) (tc : Nat → ClassId) (M : q_MI) (q0 q : q_M) (lv : q_L) (s : State) (H : Heap) (locs : List Loc) (cells slots : Nat) (ls : Array Slot) : Prop :=
  q_Wd D (q_gC G) bs tc q H ∧ va_S (fun z => bs ≤ z) s.heap H locs ∧ lv_has ls (q_mL M) (q_cl bs lv) ∧ cells = q.length - q0.length ∧ slots = q_sl q - q_sl q0 ∧ q0.length ≤ q.length ∧ q_sl q0 ≤ q_sl q
theorem q_good {G : q_G} {M : q_MI} (hok : q_okM G M) : GoodIn (q_T G) (q_ws G M) := by
  intro w hw
  rcases List.mem_cons.mp hw with rfl | h
  · have h1 := hok.1
    simp only [q_okH, Bool.and_eq_true, decide_eq_true_eq] at h1
    exact ⟨q_T_at h1.1.1.2 rfl, Or.inl rfl⟩
  · exact ⟨h, good_of_word (List.mem_filter.mp h).2⟩
theorem q_ofW {l : Launch} {y : MethodName} {ws ws' : List Cond} {rm : Room} {Pc : Array Value → State → Prop} {Qc : Array Value → State → Outcome → State → Prop} {mc ms : Nat} {free : Addr → Prop} {cc : ByteArray} {maxL : Nat} {ret : Option FieldType}
    (hy : plainFor y = true) (hw : ws = Cond.code y cc maxL ret :: ws')
    (body : ∀ p e s m args below meth c s₁, BodyLoose p l y (headSpec ws rm) cc maxL ret e s m args below meth c s₁ → c.maxLocals = maxL → Pc args s →
      W p l e (headSpec ws rm).room s m args below meth c s.heap [] 0 0 (MQ below Qc args s mc ms free) (entryFrame m args maxL)) : Met l y ws rm Pc Qc mc ms free := by
  refine MetFree.of_bodySF (code := cc) (maxLocals := maxL) (ret := ret) hy ?_ ?_
  · intro args s m h hn
    obtain ⟨meth, c, h1, h2, h3, h4, h5, h6, -, -⟩ := Cond.code_spec hn (atoms_spec (ws := ws) h _ (by rw [hw]; exact List.mem_cons_self))
    exact ⟨meth, c, h1, h2, h3, h4, h5, h6⟩
  · intro p e s m args below meth c s₁ B hml hP _
    have hh0 : s₁.heap = s.heap := by rw [B.state]; rfl
    obtain ⟨t, a1, o, b1, b2, b3⟩ := body p e s m args below meth c s₁ B hml hP s₁ hh0 (Stand.of_body B)
    exact ⟨t, o, a1, b1, b2, ⟨b3.1, b3.2⟩⟩
/-- a method's contract out of its walk -/
theorem q_metI {G : q_G} {l : Launch} {D : va_G} {bs : Nat} {tc : Nat → ClassId} {M : q_MI} {as : List Value} {q qF : q_M} {r : Option Value} (hok : q_okM G M) (hm : q.length ≤ qF.length ∧ q_sl q ≤ q_sl qF) (hcats : q_cats as ≤ q_mL M)
    (ih : ∀ {p : Program} {e : Env} {R : Room} {s : State} {m : MethodId} {args : Array Value} {below : List Frame} {meth : Method} {c : Code} {H : Heap} {locs : List Loc} {cells slots : Nat} {ls : Array Slot} {q0 : q_M}, q_Cx G D bs tc M q0 qF p R s m args meth c → q_Dx G D bs tc M q0 q (lv_args 0 as) s H locs cells slots ls →
      W p l e R s m args below meth c H locs cells slots (MQ below (q_Qc G D bs tc r qF) args s (qF.length - q0.length) (q_sl qF - q_sl q0) (fun z => bs ≤ z)) (F0 m 0 ls [])) :
    Met l (q_mY M) (q_ws G M) ({ frames := q_mF M, cells := qF.length - q.length, slots := q_sl qF - q_sl q, locals := q_mO M } : Room) (q_Pc G D bs tc as q) (q_Qc G D bs tc r qF) (qF.length - q.length) (q_sl qF - q_sl q) (fun z => bs ≤ z) := by
  have h1 := hok.1
  simp only [q_okH, Bool.and_eq_true, decide_eq_true_eq] at h1
  refine q_ofW (cc := q_mB M) (maxL := q_mL M) (ret := q_mR M) h1.1.1.1.1 rfl ?_
  intro p e s m args below meth c s₁ B hml hv
  obtain ⟨rfl, hsz, hP, hK, hN⟩ := hv
  have hts := atoms_spec (ws := q_ws G M) B.pre
  have hown := findClass_of_methodNamed B.named
  have hlocks := B.notSynchronized
  have hin : meth.name = (q_mY M).name := (name_of_methodNamed B.named B.method).1
  have hl := lv_entry (as.map (q_cv bs)) (n := q_mL M) (by rw [q_sl_len]; exact hcats)
  rw [q_args_cl] at hl
  rw [lg_entry_eq]
  refine ih (q0 := q) ⟨B.exec, B.bytes, hml, hown, fun w hw => hts w (List.mem_cons_of_mem _ hw), hK, hN, B.returns, hlocks, fun hk => ?_, hsz, rfl⟩ ⟨hP, va_S.rf, hl, by omega, by omega, Nat.le_refl _, Nat.le_refl _⟩
  have h2 := h1.2
  rw [hk] at h2
  simp only [decide_eq_true_eq] at h2
  rw [hin, h2.2.1]
theorem q_stsplit {st : List Value} {n : Nat} {as : List Value} (h : as = (st.take n).reverse) : st = as.reverse ++ st.drop n := by
  rw [h, List.reverse_reverse, List.take_append_drop]
theorem q_cats_rev (as : List Value) : q_cats as.reverse = q_cats as := by
  unfold q_cats
  rw [List.map_reverse]
  exact (List.reverse_perm _).sum_nat
section QINV
variable {p : Program} {l : Launch} {e : Env} {R : Room} {s : State} {m : MethodId} {args : Array Value} {below : List Frame} {meth : Method} {c : Code} {H : Heap} {locs : List Loc} {cells slots : Nat} {Q : State → Prop}
variable {cc : ByteArray} {pc : Nat} {ls : Array Slot} {G : q_G} {D : va_G} {bs : Nat} {tc : Nat → ClassId}
/-- a call, over its callee's contract -/
theorem q_invW (hx : p.tables.exec = Jvm.exec) (hb : c.code = cc) {nL : Nat} (hml : c.maxLocals = nL) {own : String} (hown : s.vm.findClass own = some m.cls) (hts : ∀ w ∈ q_T G, w.before args s = true) (hK : va_K D (q_gC G) (q_tyl G tc) s) (hN : q_Nst G s)
    {M M2 : q_MI} (hokM : q_okM G M2) (hRf : q_mF M = R.frames) (hRl : q_mO M = R.locals) {len pos k : Nat} {raw i : Instr} {lv : q_L} {st as rest : List Value} {q q1 : q_M} {r1 : Option Value} (hd : decode cc pc = .ok (raw, len)) (hok : q_ok4 G own raw len i pos = true) (hk : q_cnum i = some k) (hcall : q_call G M k st q = some (M2, as, rest))
    (hMet0 : q_cats as ≤ q_mL M2 → Met l (q_mY M2) (q_ws G M2) ({ frames := q_mF M2, cells := q1.length - q.length, slots := q_sl q1 - q_sl q, locals := q_mO M2 } : Room) (q_Pc G D bs tc as q) (q_Qc G D bs tc r1 q1) (q1.length - q.length) (q_sl q1 - q_sl q) (fun z => bs ≤ z))
    (hw : q_Wd D (q_gC G) bs tc q H) (hS : va_S (fun z => bs ≤ z) s.heap H locs) (hl : lv_has ls nL lv) (hzz : H.size = bs + q.length) (hfit : cells + (q1.length - q.length) ≤ R.cells ∧ slots + (q_sl q1 - q_sl q) ≤ R.slots)
    (kk : ∀ (H1 : Heap) (locs1 : List Loc), q_Wd D (q_gC G) bs tc q1 H1 → va_S (fun z => bs ≤ z) s.heap H1 locs1 → W p l e R s m args below meth c H1 locs1 (cells + (q1.length - q.length)) (slots + (q_sl q1 - q_sl q)) Q (F0 m (pc + len) ls ((r1.toList ++ rest).map (q_cv bs)))) : W p l e R s m args below meth c H locs cells slots Q (F0 m pc ls (st.map (q_cv bs))) := by
  unfold q_call at hcall
  split at hcall
  · cases hcall
  rename_i M3 hM2
  split at hcall
  rotate_left
  · cases hcall
  rename_i hcc
  obtain ⟨hlen, hca, hfr, hlo, hcb, hrc⟩ := hcc
  have e0 := Option.some.inj hcall
  have e1 : M3 = M2 := congrArg Prod.fst e0
  subst e1
  have e2 : as = (st.take (q_na M3)).reverse := (congrArg (fun z => z.2.1) e0).symm
  have e3 : rest = st.drop (q_na M3) := (congrArg (fun z => z.2.2) e0).symm
  have hst : st = as.reverse ++ rest := by rw [e3]; exact q_stsplit e2
  have hcas : q_cats as ≤ q_mL M3 := by rw [e2, q_cats_rev]; exact hcb
  have hMet := hMet0 hcas
  have hH := hokM.1
  simp only [q_okH, Bool.and_eq_true, decide_eq_true_eq] at hH
  obtain ⟨⟨⟨⟨-, hnm⟩, hcode⟩, hinit⟩, hkind⟩ := hH
  have hPre : ∀ U : State, U.heap = H → s.WarmedH U.vm → q_Pc G D bs tc as q ((as.map (q_cv bs)).toArray) U := fun U hU hW => ⟨rfl, by rw [hU]; exact hzz, by rw [hU]; exact hw, va_K.moved hW.alike hK, q_Nst_warm hW hN⟩
  have hroom : 2 * (F0 m pc ls (st.map (q_cv bs))).monitorRoom + ((rest.map (q_cv bs)).map fun v => v.category).sum ≤ 8 := by
    rw [q_cats_cv, e3]
    simpa [JFrame.monitorRoom] using hca
  have goOn : ∀ (H1 : Heap) (locs1 : List Loc), q_Wd D (q_gC G) bs tc q1 H1 → va_S (fun z => bs ≤ z) s.heap H1 locs1 → len = 3 → W p l e R s m args below meth c H1 locs1 (cells + (q1.length - q.length)) (slots + (q_sl q1 - q_sl q)) Q (F0 m (pc + 3) ls ((r1.map (q_cv bs)).toList ++ rest.map (q_cv bs))) := by
    intro H1 locs1 hw1 hS1 hlen3
    subst hlen3
    have K := kk H1 locs1 hw1 hS1
    have e9 : (r1.toList ++ rest).map (q_cv bs) = (r1.map (q_cv bs)).toList ++ rest.map (q_cv bs) := by
      cases r1 <;> simp
    rw [e9] at K
    exact K
  have hstk : st.map (q_cv bs) = (as.map (q_cv bs)).reverse ++ rest.map (q_cv bs) := by
    conv => lhs; rw [hst]
    simp [List.map_reverse]
  have hasl : as.length = q_na M3 := by
    rw [e2, List.length_reverse, List.length_take]
    omega
  unfold q_cnum at hk
  split at hk
  · -- invokevirtual
    rename_i k2
    cases hk
    simp only [q_ok4] at hok
    split at hok
    rotate_left
    · cases hok
    rename_i x
    rw [hM2] at hok
    simp only [decide_eq_true_eq] at hok
    obtain ⟨rfl, hk0, hlink⟩ := hok
    rw [hk0] at hkind
    simp only [decide_eq_true_eq] at hkind
    simp only [q_rcv, hk0] at hrc
    have hna : q_na M3 = q_mN M3 + 1 := by simp [q_na, hk0]
    rw [← e2] at hrc
    generalize hasc : as = as2 at hrc
    split at hrc
    rotate_left
    · cases hrc
    rename_i a As
    split at hrc
    rotate_left
    · cases hrc
    rename_i ci fs hma
    simp only [decide_eq_true_eq, Option.map_eq_some_iff] at hrc
    obtain ⟨zc, hzc, hzn⟩ := hrc
    have hrecv := va_recv hK hw hzc (q_cw_get (bs := bs) (tc := tc) hma)
    rw [hzn] at hrecv
    have hcb2 := callB_of (R := R) (rm := ({ frames := q_mF M3, cells := q1.length - q.length, slots := q_sl q1 - q_sl q, locals := q_mO M3 } : Room)) (mc := q1.length - q.length) (ms := q_sl q1 - q_sl q) (q_mN M3) hts (q_good hokM) rfl rfl rfl (hts _ (q_T_at hinit rfl)) (hts _ (q_T_at hlink rfl)) hnm ⟨hRf ▸ hfr, hRl ▸ hlo⟩
    refine q_callW (r1 := r1) (q1 := q1) (va_runV (As := As.map (q_cv bs)) (b := bs + a) (rest := rest.map (q_cv bs)) ⟨hx, hb, hml, hown, hts⟩ hMet ⟨hcb2, hts _ (q_T_at hkind.1 rfl), hts _ (q_T_at hkind.2 rfl)⟩ ⟨q_blind, hrecv, fun U hU hW => by have := hPre U hU hW; rw [hasc] at this; rw [hasc]; exact this⟩ rfl ?_ hl.1 ?_ hroom hd hfit) hS (fun H1 locs1 a1 a2 => goOn H1 locs1 a1 a2 rfl)
    · have := hasl
      rw [hasc, hna] at this
      simpa using this
    · show st.map (q_cv bs) = _
      rw [hstk, hasc]
      simp [q_cv]
  · -- invokestatic
    rename_i k2
    cases hk
    simp only [q_ok4] at hok
    split at hok
    rotate_left
    · cases hok
    rename_i x
    rw [hM2] at hok
    simp only [decide_eq_true_eq] at hok
    obtain ⟨rfl, hk0, hlink⟩ := hok
    rw [hk0] at hkind
    simp only [decide_eq_true_eq] at hkind
    have hna : q_na M3 = q_mN M3 := by simp [q_na, hk0]
    unfold q_lnk at hlink
    split at hlink
    · simp only [decide_eq_true_eq] at hlink
      have hcb2 := callB_of (R := R) (rm := ({ frames := q_mF M3, cells := q1.length - q.length, slots := q_sl q1 - q_sl q, locals := q_mO M3 } : Room)) (mc := q1.length - q.length) (ms := q_sl q1 - q_sl q) (q_mN M3) hts (q_good hokM) rfl rfl rfl (hts _ (q_T_at hinit rfl)) (hts _ (q_T_at hlink rfl)) hnm ⟨hRf ▸ hfr, hRl ▸ hlo⟩
      refine q_callW (r1 := r1) (q1 := q1) (va_runS (As := as.map (q_cv bs)) (rest := rest.map (q_cv bs)) ⟨hx, hb, hml, hown, hts⟩ hMet ⟨hcb2, hts _ (q_T_at hkind rfl)⟩ ⟨q_blind, hPre⟩ rfl ?_ hl.1 ?_ hroom hd hfit) hS (fun H1 locs1 a1 a2 => goOn H1 locs1 a1 a2 rfl)
      · rw [List.length_map, hasl, hna]
      · exact hstk
    · split at hlink
      rotate_left
      · cases hlink
      rename_i z hz9
      simp only [decide_eq_true_eq] at hlink
      obtain ⟨z1, z2, z3⟩ := hlink
      have hnw := hN.1 z (List.mem_of_getElem? hz9)
      rw [z1, z2, z3] at hnw
      have hcb2 := va_cnB (R := R) (rm := ({ frames := q_mF M3, cells := q1.length - q.length, slots := q_sl q1 - q_sl q, locals := q_mO M3 } : Room)) (mc := q1.length - q.length) (ms := q_sl q1 - q_sl q) (q_mN M3) hts (q_good hokM) rfl rfl rfl hnw (hts _ (q_T_at hinit rfl)) hnm ⟨hRf ▸ hfr, hRl ▸ hlo⟩
      refine q_callW (r1 := r1) (q1 := q1) (va_runSN (As := as.map (q_cv bs)) (rest := rest.map (q_cv bs)) ⟨hx, hb, hml, hown, hts⟩ hMet ⟨hcb2, hts _ (q_T_at hkind rfl), trivial⟩ ⟨q_blind, hPre⟩ rfl ?_ hl.1 ?_ hroom hd hfit) hS (fun H1 locs1 a1 a2 => goOn H1 locs1 a1 a2 rfl)
      · rw [List.length_map, hasl, hna]
      · exact hstk
  · -- invokespecial
    rename_i k2
    cases hk
    simp only [q_ok4] at hok
    split at hok
    rotate_left
    · cases hok
    rename_i x
    rw [hM2] at hok
    simp only [decide_eq_true_eq] at hok
    obtain ⟨rfl, hk0, hlink⟩ := hok
    rw [hk0] at hkind
    simp only [decide_eq_true_eq] at hkind
    obtain ⟨hki, hkn, hkr⟩ := hkind
    simp only [q_rcv, hk0] at hrc
    have hna : q_na M3 = q_mN M3 + 1 := by simp [q_na, hk0]
    rw [← e2] at hrc
    generalize hasc : as = as2 at hrc
    split at hrc
    rotate_left
    · cases hrc
    rename_i a As
    have hlenA : (As.map (q_cv bs)).length = q_mN M3 := by
      have := hasl
      rw [hasc, hna] at this
      simpa using this
    have hstk2 : (F0 m pc ls (st.map (q_cv bs))).stack = (As.map (q_cv bs)).reverse ++ .ref (bs + a) :: rest.map (q_cv bs) := by
      show st.map (q_cv bs) = _
      rw [hstk, hasc]
      simp [q_cv]
    have hPre2 : PreS s H (q_Pc G D bs tc as q) (.ref (bs + a) :: As.map (q_cv bs)) := ⟨q_blind, fun U hU hW => by have := hPre U hU hW; rw [hasc] at this; rw [hasc]; exact this⟩
    unfold q_lnk at hlink
    split at hlink
    · simp only [decide_eq_true_eq] at hlink
      have hcb2 := callB_of (R := R) (rm := ({ frames := q_mF M3, cells := q1.length - q.length, slots := q_sl q1 - q_sl q, locals := q_mO M3 } : Room)) (mc := q1.length - q.length) (ms := q_sl q1 - q_sl q) (q_mN M3) hts (q_good hokM) rfl rfl rfl (hts _ (q_T_at hinit rfl)) (hts _ (q_T_at hlink rfl)) hnm ⟨hRf ▸ hfr, hRl ▸ hlo⟩
      rw [hkr] at hcb2
      exact q_callW (r1 := r1) (q1 := q1) (va_runI (As := As.map (q_cv bs)) (b := bs + a) (rest := rest.map (q_cv bs)) ⟨hx, hb, hml, hown, hts⟩ hMet ⟨hcb2, hkn, hts _ (q_T_at hki rfl)⟩ hPre2 rfl hlenA hl.1 hstk2 hroom hd hfit) hS (fun H1 locs1 a1 a2 => goOn H1 locs1 a1 a2 rfl)
    · split at hlink
      rotate_left
      · cases hlink
      rename_i z hz9
      simp only [decide_eq_true_eq] at hlink
      obtain ⟨z1, z2, z3⟩ := hlink
      have hnw := hN.1 z (List.mem_of_getElem? hz9)
      rw [z1, z2, z3] at hnw
      have hcb2 := va_cnB (R := R) (rm := ({ frames := q_mF M3, cells := q1.length - q.length, slots := q_sl q1 - q_sl q, locals := q_mO M3 } : Room)) (mc := q1.length - q.length) (ms := q_sl q1 - q_sl q) (q_mN M3) hts (q_good hokM) rfl rfl rfl hnw (hts _ (q_T_at hinit rfl)) hnm ⟨hRf ▸ hfr, hRl ▸ hlo⟩
      rw [hkr] at hcb2
      exact q_callW (r1 := r1) (q1 := q1) (va_runIN (As := As.map (q_cv bs)) (b := bs + a) (rest := rest.map (q_cv bs)) ⟨hx, hb, hml, hown, hts⟩ hMet ⟨hcb2, hkn, hts _ (q_T_at hki rfl)⟩ hPre2 rfl hlenA hl.1 hstk2 hroom hd hfit) hS (fun H1 locs1 a1 a2 => goOn H1 locs1 a1 a2 rfl)
  · cases hk
end QINV
end
section
/-- what the pure machine does, the machine does -/
theorem q_main {G : q_G} (hV : q_GV G) (hM : ∀ M ∈ q_gM G, q_okM G M) (l : Launch) (D : va_G) (bs : Nat) (tc : Nat → ClassId) : ∀ (n : Nat) (M : q_MI), M ∈ q_gM G → ∀ (pc : Nat) (lv : q_L) (st : List Value) (q : q_M) (r : Option Value) (qF : q_M), q_run G n M pc lv st q = some (r, qF) →
    ∀ {p : Program} {e : Env} {R : Room} {s : State} {m : MethodId} {args : Array Value} {below : List Frame} {meth : Method} {c : Code} {H : Heap} {locs : List Loc} {cells slots : Nat} {ls : Array Slot} {q0 : q_M}, q_Cx G D bs tc M q0 qF p R s m args meth c → q_Dx G D bs tc M q0 q lv s H locs cells slots ls →
      W p l e R s m args below meth c H locs cells slots (MQ below (q_Qc G D bs tc r qF) args s (qF.length - q0.length) (q_sl qF - q_sl q0) (fun z => bs ≤ z)) (F0 m pc ls (st.map (q_cv bs))) := by
  intro n
  induction n with
  | zero => intro M _ pc lv st q r qF h; simp [q_run] at h
  | succ n ih =>
    intro M hMm pc lv st q r qF h p e R s m args below meth c H locs cells slots ls q0 C X
    have hmono := q_mono (n + 1) M pc lv st q r qF h
    have C0 := C
    obtain ⟨hx, hb, hml, hown, hts, hK, hN, hr, hlocks, hini, hsz, hR⟩ := C
    obtain ⟨hw, hS, hl, hcel, hslo, hq0, hq0s⟩ := X
    subst hR
    have hmls : c.maxLocals = ls.size := hml.trans hl.1.symm
    unfold q_run at h
    split at h
    · cases h
    rename_i I pc0 raw len i pos hfd
    obtain ⟨hI, hpc⟩ := q_fd_mem hfd
    simp only at hpc
    subst hpc
    have hok := List.all_eq_true.mp (hM M hMm).2 _ hI
    simp only [Bool.and_eq_true, decide_eq_true_eq, q_okI] at hok
    obtain ⟨hd, hok⟩ := hok
    split at h
    · -- pure
      rename_i hg
      rw [hg] at hok
      split at h
      rotate_left
      · cases h
      rename_i pc1 l1 st1 hp
      exact q_pureW hx hb hd hok hl hp (fun ls1 hl1 => ih M hMm _ _ _ _ _ _ h C0 ⟨hw, hS, hl1, hcel, hslo, hq0, hq0s⟩)
    · -- memory
      rename_i hg
      rw [hg] at hok
      split at h
      rotate_left
      · cases h
      rename_i st1 q1 hp
      have hz := q_mem_sz hp
      exact q_memW hx hb hmls hV hown hts hK hini hd hok hw hS hp (fun H1 locs1 hw1 hS1 => ih M hMm _ _ _ _ _ _ h C0 ⟨hw1, hS1, hl, by rw [hz.1]; exact hcel, by rw [hz.2]; exact hslo, by rw [hz.1]; exact hq0, by rw [hz.2]; exact hq0s⟩)
    · -- a new cell
      rename_i hg
      rw [hg] at hok
      split at h
      rotate_left
      · cases h
      rename_i st1 x hp
      have hm2 := q_mono n _ _ _ _ _ _ _ h
      rw [q_sl_push, List.length_append] at hm2
      have hm3 : q.length + 1 ≤ qF.length := hm2.1
      refine q_sized (fun hup => ?_)
      have hlow := q_low hw hS hsz
      have hzz : H.size = bs + q.length := by omega
      refine q_newW hx hb hV hown hts hK hN.2 hd hok hw hS hzz hp (by show cells + 1 ≤ qF.length - q0.length; omega) (by show slots + q_sz x ≤ q_sl qF - q_sl q0; omega) (fun H1 hw1 hS1 => ?_)
      exact ih M hMm _ _ _ _ _ _ h C0 ⟨hw1, hS1, hl, by rw [List.length_append]; show cells + 1 = q.length + 1 - q0.length; omega, by rw [q_sl_push]; omega, by rw [List.length_append]; omega, by rw [q_sl_push]; omega⟩
    · -- call or return
      rename_i hg
      rw [hg] at hok
      split at h
      · -- call
        rename_i k hk
        split at h
        rotate_left
        · cases h
        rename_i M1 as rest hcall
        split at h
        rotate_left
        · cases h
        rename_i r1 q1 hrun
        have hMs : M1 ∈ q_gM G := by
          unfold q_call at hcall
          split at hcall
          · cases hcall
          rename_i M3 hM3
          split at hcall
          · cases hcall
            exact List.mem_of_getElem? hM3
          · cases hcall
        have hokM := hM M1 hMs
        have hm1 := q_mono n _ _ _ _ _ _ _ hrun
        have hm2 := q_mono n _ _ _ _ _ _ _ h
        refine q_sized (fun hup => ?_)
        have hlow := q_low hw hS hsz
        have hzz : H.size = bs + q.length := by omega
        exact q_invW hx hb hml hown hts hK hN hokM rfl rfl hd hok hk hcall (fun hcas => q_metI hokM hm1 hcas (fun C X => ih M1 hMs _ _ _ _ _ _ hrun C X)) hw hS hl hzz ⟨by show cells + _ ≤ qF.length - q0.length; omega, by show slots + _ ≤ q_sl qF - q_sl q0; omega⟩ (fun H1 locs1 hw1 hS1 => ih M hMm _ _ _ _ _ _ h C0 ⟨hw1, hS1, hl, by omega, by omega, by omega, by omega⟩)
      · -- return
        split at h
        rotate_left
        · cases h
        rename_i r1 hp
        have e0 := Option.some.inj h
        have e1 : r1 = r := congrArg Prod.fst e0
        have e2 : q = qF := congrArg Prod.snd e0
        subst e1
        subst e2
        subst hcel
        subst hslo
        unfold q_retn at hp
        split at hp
        · simp only [q_ok4, decide_eq_true_eq] at hok
          obtain ⟨rfl, rfl⟩ := hok
          split at hp
          rotate_left
          · cases hp
          split at hp
          rotate_left
          · cases hp
          rename_i v _ ty hty
          split at hp
          rotate_left
          · cases hp
          rename_i hnar
          cases hp
          exact W.zret hx hb (hr.trans hty) hnar (fun t ht hW => ⟨rfl, by rw [ht]; exact hw, hS.F ht⟩) hS.2.2 hd hlocks
        · simp only [q_ok4, decide_eq_true_eq] at hok
          obtain ⟨rfl, rfl⟩ := hok
          split at hp
          rotate_left
          · cases hp
          split at hp
          rotate_left
          · cases hp
          rename_i hty
          cases hp
          exact W.lret hx hb (hr.trans hty) (fun t ht hW => ⟨rfl, by rw [ht]; exact hw, hS.F ht⟩) hS.2.2 hd hlocks
        · simp only [q_ok4, decide_eq_true_eq] at hok
          obtain ⟨rfl, rfl⟩ := hok
          split at hp
          rotate_left
          · cases hp
          split at hp
          rotate_left
          · cases hp
          rename_i hty
          cases hp
          exact W.vret hx hb (hr.trans hty) (fun t ht hW => ⟨rfl, by rw [ht]; exact hw, hS.F ht⟩) hS.2.2 hd hlocks
        · cases hp
    · -- a constant
      rename_i hg0 hg1 hg2 hg3
      split at hok
      · exact absurd (by assumption) hg0
      · exact absurd (by assumption) hg1
      · exact absurd (by assumption) hg2
      · exact absurd (by assumption) hg3
      split at h
      rotate_left
      · cases h
      rename_i st1 hp
      have K := ih M hMm _ _ _ _ _ _ h C0 (below := below) (e := e) (ls := ls) (H := H) (locs := locs) (cells := cells) (slots := slots) ⟨hw, hS, hl, hcel, hslo, hq0, hq0s⟩
      unfold q_lk at hp
      split at hp
      · cases hp
        simp only [q_ok5] at hok
        split at hok
        · simp only [decide_eq_true_eq] at hok
          obtain ⟨rfl, hlk⟩ := hok
          exact lv_ldc hx hb hown (hts _ (q_T_at hlk rfl)) hd K
        · simp only [decide_eq_true_eq] at hok
          obtain ⟨rfl, hlk⟩ := hok
          exact lv_ldcw hx hb hown (hts _ (q_T_at hlk rfl)) hd K
        · cases hok
      · cases hp
        simp only [q_ok5] at hok
        split at hok
        · simp only [decide_eq_true_eq] at hok
          obtain ⟨rfl, hlk⟩ := hok
          exact lv_ldc2 hx hb hown (hts _ (q_T_at hlk rfl)) hd K
        · cases hok
      · sorry
      · cases hp
end
section
/-! THE LAW's OWN WALK: as a method's, but for the script, which lies outside -/
theorem q_start {G : q_G} (hV : q_GV G) {args : Array Value} {s : State} (hts : ∀ w ∈ q_T G, w.before args s = true)
    (hty : ∀ (t : Nat) (ty : FieldType), (q_gA G)[t]? = some ty → ((∀ C, ty ≠ .object C) ∧ Cond.arrayClass ty ∈ q_T G) ∨ ∃ C, ty = .object C ∧ va_AO C s) : ∃ (D : va_G) (tc : Nat → ClassId), va_K D (q_gC G) (q_tyl G tc) s := by
  have h1 : ∀ ci : Nat, ∃ (cC : ClassId) (iS : Nat → Nat), ∀ q : vw_C, (q_gC G)[ci]? = some q → u_Kn s q.1 q.2.1 q.2.2 cC iS := by
    intro ci
    cases hc : (q_gC G)[ci]? with
    | none => exact ⟨0, fun _ => 0, fun q h => by cases h⟩
    | some z =>
      obtain ⟨C, T, N⟩ := z
      obtain ⟨cC, iS, h⟩ := u_known (C := C) (T := T) (N := N) (n := N) hts (hV.1 ci C T N hc).1 (hts _ (hV.1 ci C T N hc).2.2.2.1)
      exact ⟨cC, iS, fun q hq => by cases hq; exact h⟩
  have h2 : ∀ t : Nat, ∃ cA : ClassId, ∀ ty : FieldType, (q_gA G)[t]? = some ty → ArrOfT s cA ty ∧ va_RA s cA ty := by
    intro t
    cases ht : (q_gA G)[t]? with
    | none => exact ⟨0, fun q h => by cases h⟩
    | some ty =>
      rcases hty t ty ht with ⟨hno, hw⟩ | ⟨C, rfl, hao⟩
      · obtain ⟨cA, kA, comp, e1, e2, e3⟩ := Cond.arrayClass_spec (hts _ hw)
        refine ⟨cA, fun ty2 h => ?_⟩
        cases h
        refine ⟨fun n z => ⟨fun k h => (by cases h), kA, e2, comp, e3⟩, ?_⟩
        cases ty with
        | object C => exact absurd rfl (hno C)
        | _ => exact e1
      · obtain ⟨comp, cA, kA, e1, -, e2, e3, e4⟩ := Cond.arrayOver_spec (va_AO.use (A := args) hao)
        refine ⟨cA, fun ty2 h => ?_⟩
        cases h
        exact ⟨fun n z => ⟨fun k h => (by cases h), kA, e2, comp, e3⟩, kA, comp, e2, e3, e1, e4⟩
  refine ⟨(fun ci => Classical.choose (h1 ci), fun ci => Classical.choose (Classical.choose_spec (h1 ci))), fun t => Classical.choose (h2 t), ?_, ?_⟩
  · intro ci q hq
    exact Classical.choose_spec (Classical.choose_spec (h1 ci)) q hq
  · intro k q hk
    simp only [q_tyl, List.getElem?_mapIdx, Option.map_eq_some_iff] at hk
    obtain ⟨ty, h3, rfl⟩ := hk
    exact Classical.choose_spec (h2 k) ty h3
def q_scr (b L : Nat) (xs : Nat → Int32) (i : Instr) (st : List Value) : Option (List Value) := match i with
  | .iaload => (match st with | .int j :: .retAddr a :: r => if a = b ∧ q_in j L = true then some (.int (xs j.toNatClampNeg) :: r) else none | _ => none)
  | .arraylength => (match st with | .retAddr a :: r => if a = b then some (.int (Int32.ofNat L) :: r) else none | _ => none)
  | _ => none
/-- the law, purely: its answer and the memory -/
def q_lrun (G : q_G) (b L : Nat) (xs : Nat → Int32) (M : q_MI) : Nat → Nat → q_L → List Value → q_M → Option (Int32 × q_M)
  | 0, _, _, _, _ => none
  | n + 1, pc, l, st, m => match q_fd (q_mC M) pc with
    | none => none
    | some (_, _, len, i, _) => match q_grp i with
      | 0 => (match q_pure (q_mL M) pc len i l st with | some (pc1, l1, st1) => q_lrun G b L xs M n pc1 l1 st1 m | none => none)
      | 1 => (match q_scr b L xs i st with | some st1 => q_lrun G b L xs M n (pc + len) l st1 m | none => none)
      | 2 => (match q_new G i st m with | some (st1, x) => q_lrun G b L xs M n (pc + len) l st1 (m ++ [x]) | none => none)
      | 3 => (match q_cnum i with
          | some k => (match q_call G M k st m with
              | some (M1, as, rest) => (match q_run G n M1 0 (lv_args 0 as) [] m with | some (r, m1) => q_lrun G b L xs M n (pc + len) l (r.toList ++ rest) m1 | none => none)
              | none => none)
          | none => (match i, st with | .ireturn, [.int v] => some (v, m) | _, _ => none))
      | _ => (match q_lk i st with | some st1 => q_lrun G b L xs M n (pc + len) l st1 m | none => none)
theorem q_lmono {G : q_G} {b L : Nat} {xs : Nat → Int32} {M : q_MI} : ∀ (n pc : Nat) (lv : q_L) (st : List Value) (q : q_M) (v : Int32) (qF : q_M), q_lrun G b L xs M n pc lv st q = some (v, qF) → q.length ≤ qF.length ∧ q_sl q ≤ q_sl qF
  | 0, _, _, _, _, _, _, h => by simp [q_lrun] at h
  | n + 1, pc, lv, st, q, v, qF, h => by
    unfold q_lrun at h
    split at h
    · cases h
    · split at h
      · split at h
        · exact q_lmono n _ _ _ _ _ _ h
        · cases h
      · split at h
        · exact q_lmono n _ _ _ _ _ _ h
        · cases h
      · split at h
        · have h2 := q_lmono n _ _ _ _ _ _ h
          rw [q_sl_push, List.length_append] at h2
          exact ⟨by omega, by omega⟩
        · cases h
      · split at h
        · split at h
          · split at h
            · rename_i h1
              have h2 := q_lmono n _ _ _ _ _ _ h
              have h3 := q_mono n _ _ _ _ _ _ _ h1
              exact ⟨by omega, by omega⟩
            · cases h
          · cases h
        · split at h
          · cases h
            exact ⟨Nat.le_refl _, Nat.le_refl _⟩
          · cases h
      · split at h
        · exact q_lmono n _ _ _ _ _ _ h
        · cases h
section QLAW
variable {p : Program} {l : Launch} {e : Env} {R : Room} {s : State} {m : MethodId} {args : Array Value} {below : List Frame} {meth : Method} {c : Code} {Q : State → Prop}
variable {G : q_G} {D : va_G} {bs : Nat} {tc : Nat → ClassId}
theorem q_lmain (hV : q_GV G) (hM : ∀ M ∈ q_gM G, q_okM G M) {M : q_MI} (hC : q_okC G M = true) {b L : Nat} {xs : Nat → Int32} (hx : p.tables.exec = Jvm.exec) (hb : c.code = q_mB M) (hml : c.maxLocals = q_mL M) (hown : s.vm.findClass (q_mY M).cls = some m.cls) (hts : ∀ w ∈ q_T G, w.before args s = true) (hK : va_K D (q_gC G) (q_tyl G tc) s) (hN : q_Nst G s)
    (hsz : s.heap.size = bs) (hX : va_X b L xs s s.heap) (hbl : b < s.heap.size) (hRf : q_mF M = R.frames) (hRl : q_mO M = R.locals) {qF : q_M} {v : Int32} (hRc : qF.length ≤ R.cells) (hRs : q_sl qF ≤ R.slots)
    (fin : ∀ (pc : Nat) (H : Heap) (ls : Array Slot) (locs : List Loc), decode (q_mB M) pc = .ok (.ireturn, 1) → va_S (fun z => bs ≤ z) s.heap H locs → W p l e R s m args below meth c H locs qF.length (q_sl qF) Q (F0 m pc ls [.int v])) :
    ∀ (n pc : Nat) (lv : q_L) (st : List Value) (q : q_M), q_lrun G b L xs M n pc lv st q = some (v, qF) → ∀ {H : Heap} {locs : List Loc} {ls : Array Slot}, q_Wd D (q_gC G) bs tc q H → va_S (fun z => bs ≤ z) s.heap H locs → lv_has ls (q_mL M) (q_cl bs lv) →
      W p l e R s m args below meth c H locs q.length (q_sl q) Q (F0 m pc ls (st.map (q_cv bs))) := by
  intro n
  induction n with
  | zero => intro pc lv st q h; simp [q_lrun] at h
  | succ n ih =>
    intro pc lv st q h H locs ls hw hS hl
    have hsz0 : s.heap.size = bs + ([] : q_M).length := by simpa using hsz
    unfold q_lrun at h
    split at h
    · cases h
    rename_i I pc0 raw len i pos hfd
    obtain ⟨hI, hpc⟩ := q_fd_mem hfd
    simp only at hpc
    subst hpc
    have hok := List.all_eq_true.mp hC _ hI
    simp only [Bool.and_eq_true, decide_eq_true_eq, q_okI] at hok
    obtain ⟨hd, hok⟩ := hok
    split at h
    · rename_i hg
      rw [hg] at hok
      split at h
      rotate_left
      · cases h
      rename_i pc1 l1 st1 hp
      exact q_pureW hx hb hd hok hl hp (fun ls1 hl1 => ih _ _ _ _ h hw hS hl1)
    · rename_i hg
      rw [hg] at hok
      split at h
      rotate_left
      · cases h
      rename_i st1 hp
      have hbA : ¬ (fun z => bs ≤ z) b := by simp only; omega
      unfold q_scr at hp
      split at hp
      · simp only [q_ok2, decide_eq_true_eq] at hok
        obtain ⟨rfl, rfl, -⟩ := hok
        split at hp
        rotate_left
        · cases hp
        rename_i j a r
        split at hp
        rotate_left
        · cases hp
        rename_i hc
        obtain ⟨rfl, hin⟩ := hc
        cases hp
        exact va_sld (A := fun z => bs ≤ z) hx hb hX hbl hbA hS (q_in_vp hin) hd (ih _ _ _ _ h hw hS hl)
      · simp only [q_ok2, decide_eq_true_eq] at hok
        obtain ⟨rfl, rfl⟩ := hok
        split at hp
        rotate_left
        · cases hp
        rename_i a r
        split at hp
        rotate_left
        · cases hp
        rename_i hc
        subst hc
        cases hp
        exact va_slen (A := fun z => bs ≤ z) hx hb hX hbl hbA hS hd (ih _ _ _ _ h hw hS hl)
      · cases hp
    · rename_i hg
      rw [hg] at hok
      split at h
      rotate_left
      · cases h
      rename_i st1 x hp
      have hm2 := q_lmono n _ _ _ _ _ _ h
      rw [q_sl_push, List.length_append] at hm2
      have hm3 : q.length + 1 ≤ qF.length := hm2.1
      refine q_sized (fun hup => ?_)
      have hlow := q_low hw hS hsz0
      have hzz : H.size = bs + q.length := by omega
      refine q_newW hx hb hV hown hts hK hN.2 hd hok hw hS hzz hp (by omega) (by omega) (fun H1 hw1 hS1 => ?_)
      have K := ih _ _ _ _ h hw1 hS1 hl
      rw [q_sl_push, List.length_append] at K
      exact K
    · rename_i hg
      rw [hg] at hok
      split at h
      · rename_i k hk
        split at h
        rotate_left
        · cases h
        rename_i M1 as rest hcall
        split at h
        rotate_left
        · cases h
        rename_i r1 q1 hrun
        have hMs : M1 ∈ q_gM G := by
          unfold q_call at hcall
          split at hcall
          · cases hcall
          rename_i M3 hM3
          split at hcall
          · cases hcall
            exact List.mem_of_getElem? hM3
          · cases hcall
        have hokM := hM M1 hMs
        have hm1 := q_mono n _ _ _ _ _ _ _ hrun
        have hm2 := q_lmono n _ _ _ _ _ _ h
        refine q_sized (fun hup => ?_)
        have hlow := q_low hw hS hsz0
        have hzz : H.size = bs + q.length := by omega
        refine q_invW hx hb hml hown hts hK hN hokM hRf hRl hd hok hk hcall (fun hcas => q_metI hokM hm1 hcas (fun C X => q_main hV hM l D bs tc n M1 hMs _ _ _ _ _ _ hrun C X)) hw hS hl hzz ⟨by omega, by omega⟩ (fun H1 locs1 hw1 hS1 => ?_)
        have K := ih _ _ _ _ h hw1 hS1 hl
        rw [show q.length + (q1.length - q.length) = q1.length by omega, show q_sl q + (q_sl q1 - q_sl q) = q_sl q1 by omega]
        exact K
      · split at h
        rotate_left
        · cases h
        have e0 := Option.some.inj h
        have e1 := congrArg Prod.fst e0
        have e2 : q = qF := congrArg Prod.snd e0
        simp only at e1
        subst e1
        subst e2
        simp only [q_ok4, decide_eq_true_eq] at hok
        obtain ⟨rfl, rfl⟩ := hok
        exact fin _ H ls locs hd hS
    · rename_i hg0 hg1 hg2 hg3
      split at hok
      · exact absurd (by assumption) hg0
      · exact absurd (by assumption) hg1
      · exact absurd (by assumption) hg2
      · exact absurd (by assumption) hg3
      split at h
      rotate_left
      · cases h
      rename_i st1 hp
      have K := ih _ _ _ _ h hw hS hl
      unfold q_lk at hp
      split at hp
      · cases hp
        simp only [q_ok5] at hok
        split at hok
        · simp only [decide_eq_true_eq] at hok
          obtain ⟨rfl, hlk⟩ := hok
          exact lv_ldc hx hb hown (hts _ (q_T_at hlk rfl)) hd K
        · simp only [decide_eq_true_eq] at hok
          obtain ⟨rfl, hlk⟩ := hok
          exact lv_ldcw hx hb hown (hts _ (q_T_at hlk rfl)) hd K
        · cases hok
      · cases hp
        simp only [q_ok5] at hok
        split at hok
        · simp only [decide_eq_true_eq] at hok
          obtain ⟨rfl, hlk⟩ := hok
          exact lv_ldc2 hx hb hown (hts _ (q_T_at hlk rfl)) hd K
        · cases hok
      · sorry
      · cases hp
end QLAW
end
section
/-! decoding by a window of the bytes: what a reader takes out of a part, it takes out of the whole -/
def z_S (all w : ByteArray) (n : Nat) {α : Type} (r1 r2 : Decoder α) : Prop := ∀ (pos : Nat) (a : α) (q : Nat), r2.runAt w pos = .ok (a, q) → r1.runAt all (n + pos) = .ok (a, n + q)
theorem z_pure {all w : ByteArray} {n : Nat} {α : Type} (a : α) : z_S all w n (pure a) (pure a) := by
  intro pos x q h
  have h1 : (Except.ok (a, pos) : Except DecodeError (α × Nat)) = .ok (x, q) := h
  cases h1
  rfl
theorem z_bind {all w : ByteArray} {n : Nat} {α β : Type} {r1 r2 : Decoder α} {f1 f2 : α → Decoder β} (h : z_S all w n r1 r2) (hf : ∀ a, z_S all w n (f1 a) (f2 a)) : z_S all w n (r1 >>= f1) (r2 >>= f2) := by
  intro pos x q hh
  have e2 : (r2 >>= f2).runAt w pos = (r2.runAt w pos) >>= fun z => (f2 z.1).runAt w z.2 := rfl
  have e1 : (r1 >>= f1).runAt all (n + pos) = (r1.runAt all (n + pos)) >>= fun z => (f1 z.1).runAt all z.2 := rfl
  rw [e2] at hh
  rw [e1]
  cases hr : r2.runAt w pos with
  | error z => rw [hr] at hh; cases hh
  | ok z =>
    obtain ⟨a, p⟩ := z
    rw [hr] at hh
    rw [h pos a p hr]
    exact hf a p x q hh
theorem z_map {all w : ByteArray} {n : Nat} {α β : Type} {r1 r2 : Decoder α} {f : α → β} (h : z_S all w n r1 r2) : z_S all w n (f <$> r1) (f <$> r2) := by
  intro pos x q hh
  have e2 : (f <$> r2).runAt w pos = (r2.runAt w pos) >>= fun z => .ok (f z.1, z.2) := rfl
  have e1 : (f <$> r1).runAt all (n + pos) = (r1.runAt all (n + pos)) >>= fun z => .ok (f z.1, z.2) := rfl
  rw [e2] at hh
  rw [e1]
  cases hr : r2.runAt w pos with
  | error z => rw [hr] at hh; cases hh
  | ok z =>
    obtain ⟨a, p⟩ := z
    rw [hr] at hh
    rw [h pos a p hr]
    cases hh
    rfl
def z_In (all w : ByteArray) (n : Nat) : Prop := ∀ i, (hi : i < w.size) → ∃ hj : n + i < all.size, all[n + i] = w[i]
theorem z_u1at (w : ByteArray) (pos : Nat) : (Reader.u1 : Decoder Nat).runAt w pos = if h : pos < w.size then .ok (w[pos].toNat, pos + 1) else .error (HasTruncated.truncated pos) := by
  have e : (Reader.u1 : Decoder Nat).runAt w pos = (dite (pos < w.size) (fun h => (fun (_ : ByteArray) (_ : Nat) => (Except.ok (w[pos].toNat, pos + 1) : Except DecodeError (Nat × Nat)))) (fun _ => fun _ _ => .error (HasTruncated.truncated pos))) w pos := by
    by_cases hp : pos < w.size
    · rw [dif_pos hp]
      show (dite (pos < w.size) _ _ : Decoder Nat) w pos = _
      rw [dif_pos hp]
      rfl
    · rw [dif_neg hp]
      show (dite (pos < w.size) _ _ : Decoder Nat) w pos = _
      rw [dif_neg hp]
      rfl
  rw [e]
  split <;> rfl
theorem z_u1 {all w : ByteArray} {n : Nat} (h : z_In all w n) : z_S all w n (Reader.u1 : Decoder Nat) Reader.u1 := by
  intro pos x q hh
  rw [z_u1at] at hh
  rw [z_u1at]
  by_cases hp : pos < w.size
  · rw [dif_pos hp] at hh
    cases hh
    obtain ⟨hj, he⟩ := h pos hp
    rw [dif_pos hj, he]
    rfl
  · rw [dif_neg hp] at hh
    cases hh
theorem z_u2 {all w : ByteArray} {n : Nat} (h : z_In all w n) : z_S all w n (Reader.u2 : Decoder Nat) Reader.u2 := z_bind (z_u1 h) (fun a => z_bind (z_u1 h) (fun b => z_pure _))
theorem z_s1 {all w : ByteArray} {n : Nat} (h : z_In all w n) : z_S all w n (Reader.s1 : Decoder Int) Reader.s1 := z_map (z_u1 h)
theorem z_s2 {all w : ByteArray} {n : Nat} (h : z_In all w n) : z_S all w n (Reader.s2 : Decoder Int) Reader.s2 := z_map (z_u2 h)
theorem z_err {all w : ByteArray} {n : Nat} {α : Type} {r1 : Decoder α} (e1 : DecodeError) : z_S all w n r1 (fun _ _ => .error e1) := by
  intro pos x q hh
  cases hh
def z_sw (b : Nat) : Bool := b == 170 || b == 171 || b == 185 || b == 186 || b == 188 || b == 196 || b == 197 || b == 200 || b == 201
theorem z_bind0 {all w : ByteArray} {n : Nat} {β : Type} {f1 f2 : Nat → Decoder β} (h : z_In all w n) (hw : ∀ (hi : 0 < w.size), z_sw w[0].toNat = false) (hf : ∀ a, z_sw a = false → z_S all w n (f1 a) (f2 a)) {x : β} {q : Nat} (hh : ((Reader.u1 : Decoder Nat) >>= f2).runAt w 0 = .ok (x, q)) : ((Reader.u1 : Decoder Nat) >>= f1).runAt all n = .ok (x, n + q) := by
  have e2 : ((Reader.u1 : Decoder Nat) >>= f2).runAt w 0 = ((Reader.u1 : Decoder Nat).runAt w 0) >>= fun z => (f2 z.1).runAt w z.2 := rfl
  have e1 : ((Reader.u1 : Decoder Nat) >>= f1).runAt all (n + 0) = ((Reader.u1 : Decoder Nat).runAt all (n + 0)) >>= fun z => (f1 z.1).runAt all z.2 := rfl
  rw [e2] at hh
  show ((Reader.u1 : Decoder Nat) >>= f1).runAt all (n + 0) = _
  rw [e1]
  cases hr : (Reader.u1 : Decoder Nat).runAt w 0 with
  | error z => rw [hr] at hh; cases hh
  | ok z =>
    obtain ⟨a, p⟩ := z
    have ha : z_sw a = false := by
      rw [z_u1at] at hr
      by_cases hp : 0 < w.size
      · rw [dif_pos hp] at hr
        cases hr
        exact hw hp
      · rw [dif_neg hp] at hr
        cases hr
    rw [hr] at hh
    rw [z_u1 h 0 a p hr]
    exact hf a ha p x q hh
set_option maxHeartbeats 40000000 in
set_option maxRecDepth 100000 in
theorem z_instr {all w : ByteArray} {n pc : Nat} (h : z_In all w n) (hw : ∀ (hi : 0 < w.size), z_sw w[0].toNat = false) {a : Instr} {q : Nat} (hh : (Decoder.instr 0).runAt w 0 = .ok (a, q)) : (Decoder.instr pc).runAt all n = .ok (a, n + q) := by
  unfold Decoder.instr at hh ⊢
  refine z_bind0 h hw (fun op hop => ?_) hh
  split
  all_goals first
    | exact z_pure _
    | exact z_err _
    | exact z_bind (z_u1 h) (fun _ => z_pure _)
    | exact z_bind (z_u2 h) (fun _ => z_pure _)
    | exact z_bind (z_s1 h) (fun _ => z_pure _)
    | exact z_bind (z_s2 h) (fun _ => z_pure _)
    | exact z_bind (z_u1 h) (fun _ => z_bind (z_s1 h) (fun _ => z_pure _))
    | exact absurd hop (by decide)
theorem z_decode {all w : ByteArray} {n : Nat} (h : z_In all w n) (hw : ∀ (hi : 0 < w.size), z_sw w[0].toNat = false) {a : Instr} {q : Nat} (hh : decode w 0 = .ok (a, q)) : decode all n = .ok (a, q) := by
  have e2 : decode w 0 = (Decoder.instr 0).runAt w 0 >>= fun z => .ok (z.1, z.2 - 0) := rfl
  have e1 : decode all n = (Decoder.instr n).runAt all n >>= fun z => .ok (z.1, z.2 - n) := rfl
  rw [e2] at hh
  rw [e1]
  cases hr : (Decoder.instr 0).runAt w 0 with
  | error z => rw [hr] at hh; cases hh
  | ok z =>
    obtain ⟨b, p⟩ := z
    rw [hr] at hh
    rw [z_instr (pc := n) h hw hr]
    cases hh
    show (Except.ok (b, n + p - n) : Except DecodeError (Instr × Nat)) = .ok (b, p - 0)
    rw [Nat.add_sub_cancel_left, Nat.sub_zero]
end
section
/-- the rows of a code table against the bytes, one walk through them -/
def z_rows (all : ByteArray) : Nat → List UInt8 → List q_I → Bool
  | _, _, [] => true
  | cur, l, I :: C => decide (cur ≤ I.1) && (match l.drop (I.1 - cur) with
    | [] => false
    | b :: r => (match z_sw b.toNat with
      | true => decide (decode all I.1 = .ok (I.2.1, I.2.2.1))
      | false => decide (decode ⟨((b :: r).take 5).toArray⟩ 0 = .ok (I.2.1, I.2.2.1))) && z_rows all I.1 (b :: r) C)
theorem z_win {all : ByteArray} {n : Nat} {l : List UInt8} (h : all.data.toList.drop n = l) : z_In all ⟨(l.take 5).toArray⟩ n := by
  intro i hi
  have hi2 : i < (l.take 5).length := by
    simpa [ByteArray.size] using hi
  have hl : i < l.length := by
    rw [List.length_take] at hi2
    omega
  have hj : n + i < all.data.toList.length := by
    rw [← h, List.length_drop] at hl
    omega
  refine ⟨by have h9 := hj; rw [Array.length_toList] at h9; exact h9, ?_⟩
  show all.data[n + i]'(by simpa using hj) = ((l.take 5).toArray)[i]'(by simpa using hi2)
  have e1 : all.data[n + i]'(by simpa using hj) = all.data.toList[n + i]'hj := by simp
  have e2 : ((l.take 5).toArray)[i]'(by simpa using hi2) = l[i]'hl := by simp [List.getElem_take]
  rw [e1, e2]
  subst h
  simp [List.getElem_drop]
theorem z_rows_ok {all : ByteArray} : ∀ (C : List q_I) (cur : Nat) (l : List UInt8), all.data.toList.drop cur = l → z_rows all cur l C = true → ∀ I ∈ C, decode all I.1 = .ok (I.2.1, I.2.2.1)
  | [], _, _, _, _, I, hI => by cases hI
  | J :: C, cur, l, hl, h, I, hI => by
    simp only [z_rows, Bool.and_eq_true, decide_eq_true_eq] at h
    obtain ⟨hc, h⟩ := h
    have hd : all.data.toList.drop J.1 = l.drop (J.1 - cur) := by
      rw [← hl, List.drop_drop]
      congr 1
      omega
    split at h
    · cases h
    · rename_i b r hbr
      rw [hbr] at hd
      simp only [Bool.and_eq_true] at h
      obtain ⟨h1, h2⟩ := h
      have key : decode all J.1 = .ok (J.2.1, J.2.2.1) := by
        split at h1
        · exact of_decide_eq_true h1
        · rename_i hsw
          refine z_decode (z_win hd) (fun hi => ?_) (of_decide_eq_true h1)
          have : (ByteArray.mk ((b :: r).take 5).toArray)[0]'hi = b := by
            show (((b :: r).take 5).toArray)[0]'(by simp) = b
            simp
          rw [this]
          exact hsw
      rcases List.mem_cons.mp hI with rfl | hI
      · exact key
      · exact z_rows_ok C J.1 (b :: r) hd h2 I hI
def z_okC (G : q_G) (M : q_MI) : Bool := z_rows (q_mB M) 0 (q_mB M).data.toList (q_mC M) && (q_mC M).all (fun I => q_okI G (q_mY M).cls (q_mK M) I)
theorem z_okC_ok {G : q_G} {M : q_MI} (h : z_okC G M = true) : q_okC G M = true := by
  simp only [z_okC, Bool.and_eq_true] at h
  refine List.all_eq_true.mpr (fun I hI => ?_)
  simp only [Bool.and_eq_true, decide_eq_true_eq]
  exact ⟨z_rows_ok _ 0 _ (by simp) h.1 I hI, List.all_eq_true.mp h.2 I hI⟩
end
section
/-! THE ABSTRACT MACHINE: numbers by bounds of variables, cells exact in shape; every path is followed -/
abbrev a_N : Type := Bool × Option Nat × Int
abbrev a_V : Type := a_N ⊕ (Option Nat ⊕ Unit)
abbrev a_B : Type := List (Nat × Int × Int)
abbrev a_L : Type := List (Nat × a_V)
abbrev a_A : Type := Nat × Nat × ((Int × Int) ⊕ List a_N ⊕ Unit ⊕ List (Option Nat))
abbrev a_C : Type := a_A ⊕ (Nat × List a_V)
abbrev a_F : Type := q_MI × List q_I × a_L × List a_V
abbrev a_K : Type := Nat × a_B × List (a_N × a_N) × List a_F × List a_C
def a_rng (lg : Bool) : Int × Int := match lg with
  | true => (-9223372036854775808, 9223372036854775807)
  | false => (-2147483648, 2147483647)
def a_bd (B : a_B) (i : Nat) : Option (Int × Int) := match B with
  | [] => none
  | q :: B => match Nat.beq q.1 i with
    | true => some q.2
    | false => a_bd B i
def a_mx (a b : Int) : Int := if a ≤ b then b else a
def a_mn (a b : Int) : Int := if a ≤ b then a else b
def a_iv (B : a_B) (v : a_N) : Int × Int := match v.2.1 with
  | none => (v.2.2, v.2.2)
  | some i => match a_bd B i with
    | none => a_rng v.1
    | some q => (a_mx (q.1 + v.2.2) (a_rng v.1).1, a_mn (q.2 + v.2.2) (a_rng v.1).2)
/-- a number that is new, between two -/
def a_new (k : Nat) (B : a_B) (lg : Bool) (lo hi : Int) : Nat × a_B × a_N := (k + 1, (k, lo, hi) :: B, (lg, some k, 0))
def a_top (k : Nat) (B : a_B) (lg : Bool) : Nat × a_B × a_N := a_new k B lg (a_rng lg).1 (a_rng lg).2
/-- bounds made narrower by what is known of a number -/
def a_rf (B : a_B) (x : a_N) (lo hi : Int) : a_B := match x.2.1 with
  | none => B
  | some i => match a_bd B i with
    | none => (i, lo - x.2.2, hi - x.2.2) :: B
    | some q => (i, a_mx q.1 (lo - x.2.2), a_mn q.2 (hi - x.2.2)) :: B
def a_opp (c : Jvm.ClassFile.Cond) : Jvm.ClassFile.Cond := match c with
  | .eq => .ne
  | .ne => .eq
  | .lt => .ge
  | .ge => .lt
  | .gt => .le
  | .le => .gt
/-- what x c y says of x, by y's bounds b and x's own a -/
def a_lim (c : Jvm.ClassFile.Cond) (a b : Int × Int) : Int × Int := match c with
  | .eq => b
  | .ne => (if b.1 = b.2 ∧ a.1 = b.1 then (a.1 + 1, a.2) else if b.1 = b.2 ∧ a.2 = b.1 then (a.1, a.2 - 1) else a)
  | .lt => (a.1, b.2 - 1)
  | .ge => (b.1, a.2)
  | .gt => (b.1 + 1, a.2)
  | .le => (a.1, b.2)
def a_swp (c : Jvm.ClassFile.Cond) : Jvm.ClassFile.Cond := match c with
  | .eq => .eq
  | .ne => .ne
  | .lt => .gt
  | .ge => .le
  | .gt => .lt
  | .le => .ge
/-- bounds under x c y; none: it can't be -/
def a_asm (B : a_B) (c : Jvm.ClassFile.Cond) (x y : a_N) : Option a_B :=
  let a := a_iv B x
  let b := a_iv B y
  let p := a_lim c a b
  let q := a_lim (a_swp c) b a
  if a_mx a.1 p.1 ≤ a_mn a.2 p.2 ∧ a_mx b.1 q.1 ≤ a_mn b.2 q.2 then some (a_rf (a_rf B x p.1 p.2) y q.1 q.2) else none
def a_bin32 (k : Nat) (B : a_B) (op : Int32 → Int32 → Int32) (iv : Int × Int → Int × Int → Int × Int) (x y : a_N) : Nat × a_B × a_N :=
  let a := a_iv B x
  let b := a_iv B y
  if a.1 = a.2 ∧ b.1 = b.2 then (k, B, (false, none, (op (Int32.ofInt a.1) (Int32.ofInt b.1)).toInt)) else a_new k B false (iv a b).1 (iv a b).2
def a_bin64 (k : Nat) (B : a_B) (op : Int64 → Int64 → Int64) (iv : Int × Int → Int × Int → Int × Int) (x y : a_N) : Nat × a_B × a_N :=
  let a := a_iv B x
  let b := a_iv B y
  if a.1 = a.2 ∧ b.1 = b.2 then (k, B, (true, none, (op (Int64.ofInt a.1) (Int64.ofInt b.1)).toInt)) else a_new k B true (iv a b).1 (iv a b).2
def a_all32 (_ _ : Int × Int) : Int × Int := (-2147483648, 2147483647)
def a_all64 (_ _ : Int × Int) : Int × Int := (-9223372036854775808, 9223372036854775807)
/-- sums within the type's bounds, else anything -/
def a_sum (lg : Bool) (a b : Int × Int) : Int × Int := if (a_rng lg).1 ≤ a.1 + b.1 ∧ a.2 + b.2 ≤ (a_rng lg).2 then (a.1 + b.1, a.2 + b.2) else a_rng lg
def a_dif (lg : Bool) (a b : Int × Int) : Int × Int := if (a_rng lg).1 ≤ a.1 - b.2 ∧ a.2 - b.1 ≤ (a_rng lg).2 then (a.1 - b.2, a.2 - b.1) else a_rng lg
def a_mul (a b : Int × Int) : Int × Int := if 0 ≤ a.1 ∧ 0 ≤ b.1 ∧ a.2 * b.2 ≤ 2147483647 then (a.1 * b.1, a.2 * b.2) else (-2147483648, 2147483647)
def a_msk (a b : Int × Int) : Int × Int := if 0 ≤ b.1 then (0, b.2) else if 0 ≤ a.1 then (0, a.2) else (-2147483648, 2147483647)
def a_shr (a _ : Int × Int) : Int × Int := if 0 ≤ a.1 then (0, a.2) else (a.1, a_mx a.2 (-1))
def a_shf (B : a_B) (lg : Bool) (x : a_N) (d : Int) : Option a_N := if (a_rng lg).1 ≤ (a_iv B x).1 + d ∧ (a_iv B x).2 + d ≤ (a_rng lg).2 then some (lg, x.2.1, x.2.2 + d) else none
def a_add (k : Nat) (B : a_B) (x y : a_N) : Nat × a_B × a_N := match y.2.1, a_shf B false x y.2.2 with
  | none, some z => (k, B, z)
  | _, _ => a_bin32 k B (fun x y => x + y) (a_sum false) x y
def a_sub (k : Nat) (B : a_B) (x y : a_N) : Nat × a_B × a_N := match y.2.1, a_shf B false x (- y.2.2) with
  | none, some z => (k, B, z)
  | _, _ => a_bin32 k B (fun x y => x - y) (a_dif false) x y
abbrev a_P : Type := Nat × a_B × Nat × a_L × List a_V
def a_get (l : a_L) (k : Nat) : Option a_V := match l with
  | [] => none
  | q :: l => match Nat.beq q.1 k with
    | true => some q.2
    | false => a_get l k
def a_cat (v : a_V) : Nat := match v with
  | .inl (true, _, _) => 2
  | _ => 1
def a_s1 (l : a_L) (i : Nat) (v : a_V) : a_L := (i, v) :: l.filter (fun q => !(q.1 == i) && !(q.1 + 1 == i && a_cat q.2 == 2))
def a_s2 (l : a_L) (i : Nat) (v : a_V) : a_L := (i, v) :: l.filter (fun q => !(q.1 == i) && (!(q.1 == i + 1) && !(q.1 + 1 == i && a_cat q.2 == 2)))
/-- one number off: its place -/
def a_num (z : Nat × a_B × a_N) (pc : Nat) (l : a_L) (r : List a_V) : Option (List a_P) := some [(z.1, z.2.1, pc, l, .inl z.2.2 :: r)]
def a_arm (o : Option a_B) (k pc : Nat) (l : a_L) (st : List a_V) : List a_P := match o with
  | some B => [(k, B, pc, l, st)]
  | none => []
/-- the paths of a comparison; unlike: less, or greater -/
def a_pth (k : Nat) (B : a_B) (c : Jvm.ClassFile.Cond) (x y : a_N) (pc : Nat) (l : a_L) (r : List a_V) : List a_P := match c with
  | .ne => a_arm (a_asm B .lt x y) k pc l r ++ a_arm (a_asm B .gt x y) k pc l r
  | c => a_arm (a_asm B c x y) k pc l r
def a_br (k : Nat) (B : a_B) (pc len : Nat) (off : Int) (c : Jvm.ClassFile.Cond) (x y : a_N) (l : a_L) (r : List a_V) : Option (List a_P) :=
  if 0 ≤ (pc : Int) + off then some (a_pth k B c x y ((pc : Int) + off).toNat l r ++ a_pth k B (a_opp c) x y (pc + len) l r) else none
def a_to (k : Nat) (o : Option a_B) (pc : Nat) (off : Int) (l : a_L) (st : List a_V) : Option (List a_P) := match o with
  | none => some []
  | some B => if 0 ≤ (pc : Int) + off then some [(k, B, ((pc : Int) + off).toNat, l, st)] else none
def a_cats2 (x : Option (List a_P)) (y : Option (List a_P)) : Option (List a_P) := match x, y with
  | some a, some b => some (a ++ b)
  | _, _ => none
def a_tab (k : Nat) (B : a_B) (pc : Nat) (x : a_N) (l : a_L) (r : List a_V) : Int → List Int → Option (List a_P)
  | _, [] => some []
  | j, off :: offs => a_cats2 (a_to k (a_asm B .eq x (false, none, j)) pc off l r) (a_tab k B pc x l r (j + 1) offs)
def a_lkp (k : Nat) (pc : Nat) (x : a_N) (l : a_L) (r : List a_V) (d : Int) : Option a_B → List (Int × Int) → Option (List a_P)
  | none, _ => some []
  | some B, [] => a_to k (some B) pc d l r
  | some B, p :: ps => a_cats2 (a_to k (a_asm B .eq x (false, none, p.1)) pc p.2 l r) (a_lkp k pc x l r d (a_asm B .ne x (false, none, p.1)) ps)
def a_pure (k : Nat) (B : a_B) (nL pc len : Nat) (i : Instr) (l : a_L) (st : List a_V) : Option (List a_P) := match i with
  | .iconst n => some [(k, B, pc + len, l, .inl (false, none, (Int32.ofInt n).toInt) :: st)]
  | .goto_w n => some [(k, B, pc + len, l, .inl (true, none, (Int64.ofInt n).toInt) :: st)]
  | .iload j => (match a_get l j with | some (.inl (false, o, c)) => some [(k, B, pc + len, l, .inl (false, o, c) :: st)] | _ => none)
  | .lload j => (match a_get l j with | some (.inl (true, o, c)) => some [(k, B, pc + len, l, .inl (true, o, c) :: st)] | _ => none)
  | .aload j => (match a_get l j with | some (.inr (.inl (some a))) => some [(k, B, pc + len, l, .inr (.inl (some a)) :: st)] | some (.inr (.inr u)) => some [(k, B, pc + len, l, .inr (.inr u) :: st)] | _ => none)
  | .istore j => (match st with | .inl (false, o, c) :: r => if j < nL then some [(k, B, pc + len, a_s1 l j (.inl (false, o, c)), r)] else none | _ => none)
  | .astore j => (match st with | .inr (.inl (some a)) :: r => if j < nL then some [(k, B, pc + len, a_s1 l j (.inr (.inl (some a))), r)] else none | _ => none)
  | .lstore j => (match st with | .inl (true, o, c) :: r => if j + 1 < nL then some [(k, B, pc + len, a_s2 l j (.inl (true, o, c)), r)] else none | _ => none)
  | .iinc j n => (match a_get l j with | some (.inl (false, o, c)) => if j < nL then (match a_add k B (false, o, c) (false, none, (Int32.ofInt n).toInt) with | (k1, B1, z) => some [(k1, B1, pc + len, a_s1 l j (.inl z), st)]) else none | _ => none)
  | .iadd => (match st with | .inl (false, y) :: .inl (false, x) :: r => a_num (a_add k B (false, x) (false, y)) (pc + len) l r | _ => none)
  | .isub => (match st with | .inl (false, y) :: .inl (false, x) :: r => a_num (a_sub k B (false, x) (false, y)) (pc + len) l r | _ => none)
  | .imul => (match st with | .inl (false, y) :: .inl (false, x) :: r => a_num (a_bin32 k B (fun x y => x * y) a_mul (false, x) (false, y)) (pc + len) l r | _ => none)
  | .iand => (match st with | .inl (false, y) :: .inl (false, x) :: r => a_num (a_bin32 k B (fun x y => x &&& y) a_msk (false, x) (false, y)) (pc + len) l r | _ => none)
  | .ior => (match st with | .inl (false, y) :: .inl (false, x) :: r => a_num (a_bin32 k B (fun x y => x ||| y) a_all32 (false, x) (false, y)) (pc + len) l r | _ => none)
  | .ixor => (match st with | .inl (false, y) :: .inl (false, x) :: r => a_num (a_bin32 k B (fun x y => x ^^^ y) a_all32 (false, x) (false, y)) (pc + len) l r | _ => none)
  | .ishl => (match st with | .inl (false, y) :: .inl (false, x) :: r => a_num (a_bin32 k B (fun x y => x <<< (y &&& 31)) a_all32 (false, x) (false, y)) (pc + len) l r | _ => none)
  | .ishr => (match st with | .inl (false, y) :: .inl (false, x) :: r => a_num (a_bin32 k B (fun x y => x >>> (y &&& 31)) a_shr (false, x) (false, y)) (pc + len) l r | _ => none)
  | .iushr => (match st with | .inl (false, y) :: .inl (false, x) :: r => a_num (a_bin32 k B (fun x y => (x.toUInt32 >>> (y.toUInt32 &&& Int32.toUInt32 31)).toInt32) a_all32 (false, x) (false, y)) (pc + len) l r | _ => none)
  | .idiv => (match st with | .inl (false, y) :: .inl (false, x) :: r => if 0 < (a_iv B (false, y)).1 ∨ (a_iv B (false, y)).2 < 0 then a_num (a_bin32 k B (fun x y => x / y) a_all32 (false, x) (false, y)) (pc + len) l r else none | _ => none)
  | .irem => (match st with | .inl (false, y) :: .inl (false, x) :: r => if 0 < (a_iv B (false, y)).1 ∨ (a_iv B (false, y)).2 < 0 then a_num (a_bin32 k B (fun x y => x - x / y * y) a_all32 (false, x) (false, y)) (pc + len) l r else none | _ => none)
  | .ladd => (match st with | .inl (true, y) :: .inl (true, x) :: r => a_num (a_bin64 k B (fun x y => x + y) (a_sum true) (true, x) (true, y)) (pc + len) l r | _ => none)
  | .lsub => (match st with | .inl (true, y) :: .inl (true, x) :: r => a_num (a_bin64 k B (fun x y => x - y) (a_dif true) (true, x) (true, y)) (pc + len) l r | _ => none)
  | .lmul => (match st with | .inl (true, y) :: .inl (true, x) :: r => a_num (a_bin64 k B (fun x y => x * y) a_all64 (true, x) (true, y)) (pc + len) l r | _ => none)
  | .land => (match st with | .inl (true, _) :: .inl (true, _) :: r => a_num (a_top k B true) (pc + len) l r | _ => none)
  | .lor => (match st with | .inl (true, _) :: .inl (true, _) :: r => a_num (a_top k B true) (pc + len) l r | _ => none)
  | .lshl => (match st with | .inl (false, _) :: .inl (true, _) :: r => a_num (a_top k B true) (pc + len) l r | _ => none)
  | .lshr => (match st with | .inl (false, _) :: .inl (true, _) :: r => a_num (a_top k B true) (pc + len) l r | _ => none)
  | .i2l => (match st with | .inl (false, x) :: r => some [(k, (match x.1 with | some _ => a_rf B (false, x) (a_iv B (false, x)).1 (a_iv B (false, x)).2 | none => B), pc + len, l, .inl (true, x) :: r)] | _ => none)
  | .l2i => (match st with | .inl (true, x) :: r => if -2147483648 ≤ (a_iv B (true, x)).1 ∧ (a_iv B (true, x)).2 ≤ 2147483647 then some [(k, B, pc + len, l, .inl (false, x) :: r)] else a_num (a_top k B false) (pc + len) l r | _ => none)
  | .i2b => (match st with | .inl (false, x) :: r => if -128 ≤ (a_iv B (false, x)).1 ∧ (a_iv B (false, x)).2 ≤ 127 then some [(k, B, pc + len, l, .inl (false, x) :: r)] else a_num (a_new k B false (-128) 127) (pc + len) l r | _ => none)
  | .i2s => (match st with | .inl (false, x) :: r => if -32768 ≤ (a_iv B (false, x)).1 ∧ (a_iv B (false, x)).2 ≤ 32767 then some [(k, B, pc + len, l, .inl (false, x) :: r)] else a_num (a_new k B false (-32768) 32767) (pc + len) l r | _ => none)
  | .ineg => (match st with | .inl (false, x) :: r => a_num (a_bin32 k B (fun x y => - y) a_all32 (false, none, 0) (false, x)) (pc + len) l r | _ => none)
  | .lcmp => (match st with | .inl (true, y) :: .inl (true, x) :: r => some (a_arm (a_asm B .lt (true, x) (true, y)) k (pc + len) l (.inl (false, none, -1) :: r) ++ a_arm (a_asm B .eq (true, x) (true, y)) k (pc + len) l (.inl (false, none, 0) :: r) ++ a_arm (a_asm B .gt (true, x) (true, y)) k (pc + len) l (.inl (false, none, 1) :: r)) | _ => none)
  | .dup => (match st with | v :: r => if a_cat v = 1 then some [(k, B, pc + len, l, v :: v :: r)] else none | _ => none)
  | .pop => (match st with | v :: r => if a_cat v = 1 then some [(k, B, pc + len, l, r)] else none | _ => none)
  | .dup2 => (match st with | a :: b :: r => if a_cat a = 1 ∧ a_cat b = 1 then some [(k, B, pc + len, l, a :: b :: a :: b :: r)] else none | _ => none)
  | .pop2 => (match st with | a :: r => if a_cat a = 2 then some [(k, B, pc + len, l, r)] else none | _ => none)
  | .ifCond c off => (match st with | .inl (false, x) :: r => a_br k B pc len off c (false, x) (false, none, 0) l r | _ => none)
  | .if_icmp c off => (match st with | .inl (false, y) :: .inl (false, x) :: r => a_br k B pc len off c (false, x) (false, y) l r | _ => none)
  | .goto off => a_to k (some B) pc off l st
  | .tableswitch d lo hi offs => (match st with | .inl (false, x) :: r => if (offs.size : Int) = hi - lo + 1 then a_cats2 (a_tab k B pc (false, x) l r lo offs.toList) (a_cats2 (a_to k (a_asm B .lt (false, x) (false, none, lo)) pc d l r) (a_to k (a_asm B .gt (false, x) (false, none, hi)) pc d l r)) else none | _ => none)
  | .lookupswitch d ps => (match st with | .inl (false, x) :: r => if (ps.toList.zip (ps.toList.drop 1)).all (fun (a, next) => a.1 < next.1) = true then a_lkp k pc (false, x) l r d (some B) ps.toList else none | _ => none)
  | _ => none
end
section
abbrev a_Q : Type := Nat × a_B × List a_V × List a_C
def a_hul (B : a_B) : List a_N → Int × Int
  | [] => (0, 0)
  | [x] => a_iv B x
  | x :: xs => (a_mn (a_iv B x).1 (a_hul B xs).1, a_mx (a_iv B x).2 (a_hul B xs).2)
def a_put (B : a_B) (c : (Int × Int) ⊕ List a_N ⊕ Unit ⊕ List (Option Nat)) (i : Int × Int) (v : a_N) : Option ((Int × Int) ⊕ List a_N ⊕ Unit ⊕ List (Option Nat)) := match c with
  | .inl q => some (.inl (a_mn q.1 (a_iv B v).1, a_mx q.2 (a_iv B v).2))
  | .inr (.inl vs) => if i.1 = i.2 then some (.inr (.inl (vs.set i.1.toNat v))) else some (.inl (a_mn (a_hul B vs).1 (a_iv B v).1, a_mx (a_hul B vs).2 (a_iv B v).2))
  | _ => none
def a_rd (k : Nat) (B : a_B) (c : (Int × Int) ⊕ List a_N ⊕ Unit ⊕ List (Option Nat)) (i : Int × Int) : Option (Nat × a_B × a_N) := match c with
  | .inl q => some (if q.1 = q.2 then (k, B, (false, none, q.1)) else a_new k B false q.1 q.2)
  | .inr (.inl vs) => if i.1 = i.2 then (match vs[i.1.toNat]? with | some v => some (k, B, v) | none => none) else some (a_new k B false (a_hul B vs).1 (a_hul B vs).2)
  | _ => none
def a_fit (ty : FieldType) (v : a_V) : Bool := match ty, v with
  | .int, .inl (false, _, _) => true
  | .long, .inl (true, _, _) => true
  | .object _, .inr (.inl _) => true
  | .array _, .inr (.inl _) => true
  | _, _ => false
def a_ref (k : Nat) (B : a_B) (x : a_N) (r : List a_V) (m : List a_C) : Int → List (Option Nat) → List a_Q
  | _, [] => []
  | j, o :: os => (match a_asm B .eq x (false, none, j) with | some B1 => [(k, B1, .inr (.inl o) :: r, m)] | none => []) ++ a_ref k B x r m (j + 1) os
def a_ac (v : List a_V) : Nat := (v.map a_cat).sum
def a_in (B : a_B) (x : a_N) (n : Nat) : Bool := decide (0 ≤ (a_iv B x).1 ∧ (a_iv B x).2 < (n : Int))
def a_cpy (k : Nat) (B : a_B) (r : List a_V) (m : List a_C) (j d : Nat) (sp dp w : Int × Int) : Option (List a_Q) := match m[j]?, m[d]? with
  | some (.inl (t0, n0, .inl q)), some (.inl (t1, n1, .inl p)) => if t0 = 0 ∧ t1 = 0 ∧ 0 ≤ sp.1 ∧ 0 ≤ dp.1 ∧ 0 ≤ w.1 ∧ sp.2 + w.2 ≤ (n0 : Int) ∧ dp.2 + w.2 ≤ (n1 : Int) then some [(k, B, r, m.set d (.inl (t1, n1, .inl (a_mn q.1 p.1, a_mx q.2 p.2))))] else none
  | some (.inl (t0, n0, .inr (.inr (.inl u)))), some (.inl (t1, n1, .inr (.inr (.inl _)))) => if t0 = 1 ∧ t1 = 1 ∧ 0 ≤ sp.1 ∧ 0 ≤ dp.1 ∧ 0 ≤ w.1 ∧ sp.2 + w.2 ≤ (n0 : Int) ∧ dp.2 + w.2 ≤ (n1 : Int) then some [(k, B, r, m.set d (.inl (t1, n1, .inr (.inr (.inl u)))))] else none
  | _, _ => none
def a_mem (G : q_G) (k : Nat) (B : a_B) (fr lo : Nat) (i : Instr) (st : List a_V) (m : List a_C) : Option (List a_Q) := match i with
  | .getfield n => (match st with | .inr (.inl (some a)) :: r => (match m[a]? with | some (.inr (ci, fs)) => if ci = n / 64 then (match fs[n % 64]? with | some v => some [(k, B, v :: r, m)] | none => none) else none | _ => none) | _ => none)
  | .putfield n => (match st with | v :: .inr (.inl (some a)) :: r => (match m[a]? with | some (.inr (ci, fs)) => if ci = n / 64 ∧ n % 64 < fs.length ∧ a_fit (q_gY G ci (n % 64)) v = true then some [(k, B, r, m.set a (.inr (ci, fs.set (n % 64) v)))] else none | _ => none) | _ => none)
  | .iaload => (match st with | .inl (false, x) :: .inr (.inl (some a)) :: r => (match m[a]? with | some (.inl (t, n, c)) => if t = 0 ∧ a_in B (false, x) n = true then (match a_rd k B c (a_iv B (false, x)) with | some z => some [(z.1, z.2.1, .inl z.2.2 :: r, m)] | none => none) else none | _ => none) | _ => none)
  | .baload => (match st with | .inl (false, x) :: .inr (.inl (some a)) :: r => (match m[a]? with | some (.inl (t, n, c)) => if (t = 2 ∨ t = 3) ∧ a_in B (false, x) n = true then (match a_rd k B c (a_iv B (false, x)) with | some z => some [(z.1, z.2.1, .inl z.2.2 :: r, m)] | none => none) else none | _ => none) | _ => none)
  | .laload => (match st with | .inl (false, x) :: .inr (.inl (some a)) :: r => (match m[a]? with | some (.inl (t, n, .inr (.inr (.inl _)))) => if t = 1 ∧ a_in B (false, x) n = true then (match a_top k B true with | z => some [(z.1, z.2.1, .inl z.2.2 :: r, m)]) else none | _ => none) | _ => none)
  | .aaload => (match st with | .inl (false, x) :: .inr (.inl (some a)) :: r => (match m[a]? with | some (.inl (t, n, .inr (.inr (.inr rs)))) => if 4 ≤ t ∧ t < (q_gA G).length ∧ a_in B (false, x) n = true ∧ rs.length = n then some (a_ref k B (false, x) r m 0 rs) else none | _ => none) | _ => none)
  | .iastore => (match st with | .inl (false, v) :: .inl (false, x) :: .inr (.inl (some a)) :: r => (match m[a]? with | some (.inl (t, n, c)) => if t = 0 ∧ a_in B (false, x) n = true then (match a_put B c (a_iv B (false, x)) (false, v) with | some c1 => some [(k, B, r, m.set a (.inl (t, n, c1)))] | none => none) else none | _ => none) | _ => none)
  | .bastore => (match st with | .inl (false, _) :: .inl (false, x) :: .inr (.inl (some a)) :: r => (match m[a]? with | some (.inl (t, n, .inl q)) => if a_in B (false, x) n = true then (if t = 2 then some [(k, B, r, m.set a (.inl (t, n, .inl (a_mn q.1 (-128), a_mx q.2 127))))] else if t = 3 then some [(k, B, r, m.set a (.inl (t, n, .inl (a_mn q.1 0, a_mx q.2 1))))] else none) else none | _ => none) | _ => none)
  | .lastore => (match st with | .inl (true, _) :: .inl (false, x) :: .inr (.inl (some a)) :: r => (match m[a]? with | some (.inl (t, n, .inr (.inr (.inl _)))) => if t = 1 ∧ a_in B (false, x) n = true then some [(k, B, r, m)] else none | _ => none) | _ => none)
  | .aastore => (match st with | .inr (.inl (some v)) :: .inl (false, x) :: .inr (.inl (some a)) :: r => (match m[a]?, m[v]? with | some (.inl (t, n, .inr (.inr (.inr rs)))), some (.inr (ci, _)) => if 4 ≤ t ∧ a_in B (false, x) n = true ∧ (a_iv B (false, x)).1 = (a_iv B (false, x)).2 ∧ ((q_gC G)[ci]?.map fun z => FieldType.object z.1) = (q_gA G)[t]? ∧ ((q_gA G)[t]?).isSome = true then some [(k, B, r, m.set a (.inl (t, n, .inr (.inr (.inr (rs.set (a_iv B (false, x)).1.toNat (some v)))))))] else none | _, _ => none) | _ => none)
  | .arraylength => (match st with | .inr (.inl (some a)) :: r => (match m[a]? with | some (.inl (t, n, _)) => if t < (q_gA G).length ∧ n < 2147483648 then some [(k, B, .inl (false, none, (n : Int)) :: r, m)] else none | _ => none) | _ => none)
  | .invokedynamic n => if n = 0 then (match st with | .inr (.inl (some _)) :: r => if 1 ≤ fr ∧ a_ac r + 12 ≤ lo then some [(k, B, r, m)] else none | _ => none)
      else if n = 1 then (match st with | .inl (false, w) :: .inl (false, dp) :: .inr (.inl (some d)) :: .inl (false, sp) :: .inr (.inl (some j)) :: r => if 1 ≤ fr ∧ a_ac r + 18 ≤ lo then a_cpy k B r m j d (a_iv B (false, sp)) (a_iv B (false, dp)) (a_iv B (false, w)) else none | _ => none)
      else none
  | _ => none
def a_dft (ty : FieldType) : Option a_V := match ty with
  | .int => some (.inl (false, none, 0))
  | .long => some (.inl (true, none, 0))
  | .object _ => some (.inr (.inl none))
  | .array _ => some (.inr (.inl none))
  | _ => none
def a_dfs (Y : Nat → FieldType) : Nat → Option (List a_V)
  | 0 => some []
  | n + 1 => match a_dfs Y n, a_dft (Y n) with
    | some l, some v => some (l ++ [v])
    | _, _ => none
def a_cel (G : q_G) (B : a_B) (i : Instr) (st : List a_V) (m : List a_C) : Option (List a_V × a_C) := match i with
  | .new ci => (match (q_gC G)[ci]? with | some (_, _, N) => (match a_dfs (q_gY G ci) N with | some l => some (.inr (.inl (some m.length)) :: st, .inr (ci, l)) | none => none) | none => none)
  | .newarray a => (match st with | .inl (false, w) :: r => if (a_iv B (false, w)).1 = (a_iv B (false, w)).2 ∧ 0 ≤ (a_iv B (false, w)).1 ∧ (a_iv B (false, w)).1 ≤ 60000000 ∧ q_tag a < 4 then some (.inr (.inl (some m.length)) :: r, .inl (q_tag a, (a_iv B (false, w)).1.toNat, if a = .long then .inr (.inr (.inl ())) else if a = .int ∧ (a_iv B (false, w)).1 ≤ 4 then .inr (.inl (List.replicate (a_iv B (false, w)).1.toNat (false, none, 0))) else .inl (0, 0))) else none | _ => none)
  | .anewarray t => (match st with | .inl (false, w) :: r => if (a_iv B (false, w)).1 = (a_iv B (false, w)).2 ∧ 0 ≤ (a_iv B (false, w)).1 ∧ (a_iv B (false, w)).1 ≤ 60000000 then some (.inr (.inl (some m.length)) :: r, .inl (t, (a_iv B (false, w)).1.toNat, .inr (.inr (.inr (List.replicate (a_iv B (false, w)).1.toNat none))))) else none | _ => none)
  | _ => none
def a_lk (i : Instr) (st : List a_V) : Option (List a_V) := match i with
  | .sipush n => some (.inl (false, none, (Int32.ofInt n).toInt) :: st)
  | .jsr_w n => some (.inl (true, none, (Int64.ofInt n).toInt) :: st)
  | _ => none
def a_sz (x : a_C) : Nat := match x with
  | .inl (_, n, _) => n
  | .inr (_, fs) => fs.length
def a_sl (m : List a_C) : Nat := (m.map a_sz).sum
def a_jmp (C : List q_I) (pc : Nat) : List q_I := match C with
  | [] => []
  | I :: C => match Nat.blt I.1 pc with
    | true => a_jmp C pc
    | false => I :: C
/-- where the code goes on: at once behind, or by a jump; the place must be met -/
def a_at (M : q_MI) (tl : List q_I) (pc : Nat) : Option (List q_I) := match tl with
  | I :: tl => if I.1 = pc then some (I :: tl) else (match a_jmp (q_mC M) pc with | J :: l => if J.1 = pc then some (J :: l) else none | [] => none)
  | [] => (match a_jmp (q_mC M) pc with | J :: l => if J.1 = pc then some (J :: l) else none | [] => none)
def a_rcv (G : q_G) (M : q_MI) (as : List a_V) (m : List a_C) : Bool := match q_mK M with
  | 1 => true
  | 0 => (match as with | .inr (.inl (some a)) :: _ => (match m[a]? with | some (.inr (ci, _)) => decide ((q_gC G)[ci]?.map (fun z => z.1) = some (q_mY M).cls) | _ => false) | _ => false)
  | _ => (match as with | .inr (.inl (some _)) :: _ => true | _ => false)
def a_lvs : Nat → List a_V → a_L
  | _, [] => []
  | i, v :: vs => (i, v) :: a_lvs (if a_cat v = 2 then i + 2 else i + 1) vs
def a_call (G : q_G) (M : q_MI) (k : Nat) (st : List a_V) (m : List a_C) : Option (q_MI × List a_V × List a_V) := match (q_gM G)[k]? with
  | none => none
  | some M1 => if q_na M1 ≤ st.length ∧ a_ac (st.drop (q_na M1)) ≤ 8 ∧ q_mF M1 + 1 ≤ q_mF M ∧ 8 + (q_mL M1 + 11) + q_mO M1 ≤ q_mO M ∧ a_ac (st.take (q_na M1)) ≤ q_mL M1 ∧ a_rcv G M1 (st.take (q_na M1)).reverse m = true
    then some (M1, (st.take (q_na M1)).reverse, st.drop (q_na M1)) else none
def a_ret (B : a_B) (M : q_MI) (i : Instr) (st : List a_V) : Option (List a_V) := match i with
  | .ireturn => (match st with | [.inl (false, x)] => (match q_mR M with | some .int => some [.inl (false, x)] | some .boolean => if 0 ≤ (a_iv B (false, x)).1 ∧ (a_iv B (false, x)).2 ≤ 1 then some [.inl (false, x)] else none | _ => none) | _ => none)
  | .lreturn => (match st with | [.inl (true, x)] => if q_mR M = some .long then some [.inl (true, x)] else none | _ => none)
  | .return_ => (match st with | [] => if q_mR M = none then some [] else none | _ => none)
  | _ => none
def a_eqn (x y : a_N) : Bool := decide (x.2.1 = y.2.1 ∧ x.2.2 = y.2.2)
def a_mmo (S : List (a_N × a_N)) (x : a_N) : Option a_N := match S with
  | [] => none
  | q :: S => match a_eqn q.1 x with
    | true => some q.2
    | false => a_mmo S x
/-- the script read: a number that was read before is the same; L is the variable 0 -/
def a_scr (k : Nat) (B : a_B) (S : List (a_N × a_N)) (i : Instr) (st : List a_V) : Option (Nat × a_B × List (a_N × a_N) × List a_V) := match i with
  | .iaload => (match st with | .inl (false, x) :: .inr (.inr ()) :: r => (match a_mmo S (false, x) with
      | some v => some (k, B, S, .inl v :: r)
      | none => if 0 ≤ (a_iv B (false, x)).1 ∧ (a_iv B (false, x)).2 < (a_iv B (true, some 0, 0)).1 then (match a_top k B false with | z => some (z.1, z.2.1, ((false, x), z.2.2) :: S, .inl z.2.2 :: r)) else none) | _ => none)
  | .arraylength => (match st with | .inr (.inr ()) :: r => some (k, B, S, .inl (false, some 0, 0) :: r) | _ => none)
  | _ => none
def a_nxt (M : q_MI) (tl : List q_I) (fs : List a_F) (S : List (a_N × a_N)) (m : List a_C) : List a_P → Option (List a_K)
  | [] => some []
  | p :: ps => match a_at M tl p.2.2.1, a_nxt M tl fs S m ps with
    | some c, some l => some ((p.1, p.2.1, S, (M, c, p.2.2.2.1, p.2.2.2.2) :: fs, m) :: l)
    | _, _ => none
def a_nxm (M : q_MI) (c : List q_I) (l : a_L) (fs : List a_F) (S : List (a_N × a_N)) (ps : List a_Q) : List a_K := ps.map (fun p => (p.1, p.2.1, S, (M, c, l, p.2.2.1) :: fs, p.2.2.2))
def a_step (G : q_G) (mx ml : Nat) (K : a_K) : Option (List a_K) := match K with
  | (_, _, _, [], _) => none
  | (_, _, _, (_, [], _, _) :: _, _) => none
  | (k, B, S, (M, (pc, _, len, i, _) :: tl, l, st) :: fs, m) => match q_grp i with
    | 0 => (match a_pure k B (q_mL M) pc len i l st with | some ps => a_nxt M tl fs S m ps | none => none)
    | 1 => (match a_at M tl (pc + len) with
        | some c => (match fs with
            | [] => (match a_scr k B S i st with | some (k1, B1, S1, st1) => some [(k1, B1, S1, [(M, c, l, st1)], m)] | none => none)
            | _ :: _ => (match a_mem G k B (q_mF M) (q_mO M) i st m with | some ps => some (a_nxm M c l fs S ps) | none => none))
        | none => none)
    | 2 => (match a_at M tl (pc + len), a_cel G B i st m with | some c, some (st1, x) => some [(k, B, S, (M, c, l, st1) :: fs, m ++ [x])] | _, _ => none)
    | 3 => (match q_cnum i with
        | some j => (match a_at M tl (pc + len), a_call G M j st m with
            | some c, some (M1, as, rest) => (match a_at M1 (q_mC M1) 0 with | some c1 => some [(k, B, S, (M1, c1, a_lvs 0 as, []) :: (M, c, l, rest) :: fs, m)] | none => none)
            | _, _ => none)
        | none => (match fs with
            | [] => (match i, st with | .ireturn, [.inl (false, x)] => if (a_iv B (false, x)).1 = 1 ∧ (a_iv B (false, x)).2 = 1 ∧ m.length ≤ mx ∧ a_sl m ≤ ml then some [] else none | _, _ => none)
            | (M2, c2, l2, st2) :: fs2 => (match a_ret B M i st with | some r => some [(k, B, S, (M2, c2, l2, r ++ st2) :: fs2, m)] | none => none)))
    | _ => (match a_at M tl (pc + len), a_lk i st with | some c, some st1 => some [(k, B, S, (M, c, l, st1) :: fs, m)] | _, _ => none)
/-- every path comes to the law's end with 1 -/
noncomputable def a_run (G : q_G) (mx ml : Nat) (n : Nat) : a_K → Bool := Nat.rec (motive := fun _ => a_K → Bool) (fun _ => false) (fun _ ih K => match a_step G mx ml K with
  | none => false
  | some [] => true
  | some [K1] => ih K1
  | some Ks => Ks.all ih) n
end
section
/-! WHAT THE ABSTRACT THINGS MEAN: v gives the variables' values -/
def g_lin (v : List Int) (o : Option Nat) (c z : Int) : Prop := match o with
  | none => z = c
  | some i => ∃ w, v[i]? = some w ∧ z = w + c
def g_n (v : List Int) (x : a_N) (y : Value) : Prop := match x.1 with
  | false => ∃ z : Int32, y = .int z ∧ g_lin v x.2.1 x.2.2 z.toInt
  | true => ∃ z : Int64, y = .long z ∧ g_lin v x.2.1 x.2.2 z.toInt
def g_v (b : Nat) (v : List Int) (x : a_V) (y : Value) : Prop := match x with
  | .inl n => g_n v n y
  | .inr (.inl (some k)) => y = .ref k
  | .inr (.inl none) => y = .null
  | .inr (.inr _) => y = .retAddr b
def g_B (v : List Int) (B : a_B) : Prop := ∀ q ∈ B, ∃ w, v[q.1]? = some w ∧ q.2.1 ≤ w ∧ w ≤ q.2.2
def g_2 {α β : Type} (R : α → β → Prop) : List α → List β → Prop
  | [], [] => True
  | a :: as, b :: bs => R a b ∧ g_2 R as bs
  | _, _ => False
theorem g_2_len {α β : Type} {R : α → β → Prop} : ∀ {as : List α} {bs : List β}, g_2 R as bs → as.length = bs.length
  | [], [], _ => rfl
  | a :: as, b :: bs, h => by simp [g_2_len h.2]
  | [], _ :: _, h => h.elim
  | _ :: _, [], h => h.elim
theorem g_2_get {α β : Type} {R : α → β → Prop} : ∀ {as : List α} {bs : List β}, g_2 R as bs → ∀ {i : Nat} {a : α}, as[i]? = some a → ∃ b, bs[i]? = some b ∧ R a b
  | [], [], _, i, a, h => by simp at h
  | x :: as, y :: bs, hh, 0, a, h => by
    simp at h
    subst h
    exact ⟨y, by simp, hh.1⟩
  | x :: as, y :: bs, hh, i + 1, a, h => by
    simp at h
    obtain ⟨b, h1, h2⟩ := g_2_get hh.2 h
    exact ⟨b, by simpa using h1, h2⟩
  | [], _ :: _, hh, _, _, _ => hh.elim
  | _ :: _, [], hh, _, _, _ => hh.elim
theorem g_2_mono {α β : Type} {R S : α → β → Prop} (hRS : ∀ a b, R a b → S a b) : ∀ {as : List α} {bs : List β}, g_2 R as bs → g_2 S as bs
  | [], [], _ => trivial
  | a :: as, b :: bs, h => ⟨hRS _ _ h.1, g_2_mono hRS h.2⟩
  | [], _ :: _, h => h.elim
  | _ :: _, [], h => h.elim
theorem g_2_set {α β : Type} {R : α → β → Prop} : ∀ {as : List α} {bs : List β}, g_2 R as bs → ∀ {i : Nat} {a : α} {b : β}, R a b → g_2 R (as.set i a) (bs.set i b)
  | [], [], _, i, a, b, _ => trivial
  | x :: as, y :: bs, hh, 0, a, b, h => ⟨h, hh.2⟩
  | x :: as, y :: bs, hh, i + 1, a, b, h => ⟨hh.1, g_2_set hh.2 h⟩
  | [], _ :: _, hh, _, _, _, _ => hh.elim
  | _ :: _, [], hh, _, _, _, _ => hh.elim
theorem g_2_app {α β : Type} {R : α → β → Prop} : ∀ {as : List α} {bs : List β} {cs : List α} {ds : List β}, g_2 R as bs → g_2 R cs ds → g_2 R (as ++ cs) (bs ++ ds)
  | [], [], cs, ds, _, h => h
  | x :: as, y :: bs, cs, ds, hh, h => ⟨hh.1, g_2_app hh.2 h⟩
  | [], _ :: _, _, _, hh, _ => hh.elim
  | _ :: _, [], _, _, hh, _ => hh.elim
theorem g_2_take {α β : Type} {R : α → β → Prop} : ∀ (n : Nat) {as : List α} {bs : List β}, g_2 R as bs → g_2 R (as.take n) (bs.take n)
  | 0, _, _, _ => by simp [g_2]
  | n + 1, [], [], _ => by simp [g_2]
  | n + 1, x :: as, y :: bs, hh => ⟨hh.1, g_2_take n hh.2⟩
  | _ + 1, [], _ :: _, hh => hh.elim
  | _ + 1, _ :: _, [], hh => hh.elim
theorem g_2_drop {α β : Type} {R : α → β → Prop} : ∀ (n : Nat) {as : List α} {bs : List β}, g_2 R as bs → g_2 R (as.drop n) (bs.drop n)
  | 0, _, _, h => h
  | n + 1, [], [], _ => by simp [g_2]
  | n + 1, x :: as, y :: bs, hh => g_2_drop n hh.2
  | _ + 1, [], _ :: _, hh => hh.elim
  | _ + 1, _ :: _, [], hh => hh.elim
theorem g_2_rev {α β : Type} {R : α → β → Prop} : ∀ {as : List α} {bs : List β}, g_2 R as bs → g_2 R as.reverse bs.reverse
  | [], [], _ => trivial
  | x :: as, y :: bs, hh => by
    rw [List.reverse_cons, List.reverse_cons]
    exact g_2_app (g_2_rev hh.2) ⟨hh.1, trivial⟩
  | [], _ :: _, hh => hh.elim
  | _ :: _, [], hh => hh.elim
theorem g_lin_ext {v t : List Int} {o : Option Nat} {c z : Int} (h : g_lin v o c z) : g_lin (v ++ t) o c z := by
  cases o with
  | none => exact h
  | some i =>
    obtain ⟨w, h1, h2⟩ := h
    exact ⟨w, by rw [List.getElem?_append_left (List.getElem?_eq_some_iff.mp h1).1]; exact h1, h2⟩
theorem g_n_ext {v t : List Int} {x : a_N} {y : Value} (h : g_n v x y) : g_n (v ++ t) x y := by
  obtain ⟨lg, o, c⟩ := x
  cases lg with
  | false =>
    obtain ⟨z, h1, h2⟩ := h
    exact ⟨z, h1, g_lin_ext h2⟩
  | true =>
    obtain ⟨z, h1, h2⟩ := h
    exact ⟨z, h1, g_lin_ext h2⟩
theorem g_v_ext {b : Nat} {v t : List Int} {x : a_V} {y : Value} (h : g_v b v x y) : g_v b (v ++ t) x y := by
  match x, h with
  | .inl n, h => exact g_n_ext h
  | .inr (.inl (some k)), h => exact h
  | .inr (.inl none), h => exact h
  | .inr (.inr _), h => exact h
theorem g_B_ext {v t : List Int} {B : a_B} (h : g_B v B) : g_B (v ++ t) B := by
  intro q hq
  obtain ⟨w, h1, h2⟩ := h q hq
  exact ⟨w, by rw [List.getElem?_append_left (List.getElem?_eq_some_iff.mp h1).1]; exact h1, h2⟩
theorem g_bd {v : List Int} : ∀ {B : a_B}, g_B v B → ∀ {i : Nat} {q : Int × Int}, a_bd B i = some q → ∃ w, v[i]? = some w ∧ q.1 ≤ w ∧ w ≤ q.2
  | [], _, i, q, h => by simp [a_bd] at h
  | p :: B, hB, i, q, h => by
    unfold a_bd at h
    split at h
    · rename_i hb
      have hb := Nat.eq_of_beq_eq_true hb
      cases h
      subst hb
      exact hB p List.mem_cons_self
    · exact g_bd (fun z hz => hB z (List.mem_cons_of_mem _ hz)) h
theorem a_mx_le {a b c : Int} (h1 : a ≤ c) (h2 : b ≤ c) : a_mx a b ≤ c := by unfold a_mx; split <;> assumption
theorem a_mn_ge {a b c : Int} (h1 : c ≤ a) (h2 : c ≤ b) : c ≤ a_mn a b := by unfold a_mn; split <;> assumption
theorem a_mx_l (a b : Int) : a ≤ a_mx a b := by unfold a_mx; split <;> omega
theorem a_mx_r (a b : Int) : b ≤ a_mx a b := by unfold a_mx; split <;> omega
theorem a_mn_l (a b : Int) : a_mn a b ≤ a := by unfold a_mn; split <;> omega
theorem a_mn_r (a b : Int) : a_mn a b ≤ b := by unfold a_mn; split <;> omega
def g_in (lg : Bool) (z : Int) : Prop := (a_rng lg).1 ≤ z ∧ z ≤ (a_rng lg).2
theorem g_in32 (x : Int32) : g_in false x.toInt := by
  have h1 := Int32.le_toInt x
  have h2 := Int32.toInt_lt x
  exact ⟨by show (-2147483648 : Int) ≤ _; omega, by show _ ≤ (2147483647 : Int); omega⟩
theorem g_in64 (x : Int64) : g_in true x.toInt := by
  have h1 := Int64.le_toInt x
  have h2 := Int64.toInt_lt x
  exact ⟨by show (-9223372036854775808 : Int) ≤ _; omega, by show _ ≤ (9223372036854775807 : Int); omega⟩
theorem g_o32 {o : Option Nat} (x : Int32) : o = none ∨ g_in false x.toInt := Or.inr (g_in32 x)
theorem g_o64 {o : Option Nat} (x : Int64) : o = none ∨ g_in true x.toInt := Or.inr (g_in64 x)
theorem g_iv {v : List Int} {B : a_B} (hB : g_B v B) {x : a_N} {z : Int} (hx : g_lin v x.2.1 x.2.2 z) (hz : x.2.1 = none ∨ g_in x.1 z) : (a_iv B x).1 ≤ z ∧ z ≤ (a_iv B x).2 := by
  obtain ⟨lg, o, c⟩ := x
  cases o with
  | none =>
    have : z = c := hx
    subst this
    exact ⟨Int.le_refl _, Int.le_refl _⟩
  | some i =>
    obtain ⟨w, h1, h2⟩ := hx
    have hz : g_in lg z := hz.elim (fun q => by cases q) id
    simp only at h1 h2
    simp only [a_iv]
    cases hb : a_bd B i with
    | none => exact hz
    | some q =>
      obtain ⟨w2, h3, h4, h5⟩ := g_bd hB hb
      rw [h1] at h3
      cases h3
      exact ⟨a_mx_le (by omega) hz.1, a_mn_ge (by omega) hz.2⟩
theorem g_rf {v : List Int} {B : a_B} (hB : g_B v B) {x : a_N} {z lo hi : Int} (hx : g_lin v x.2.1 x.2.2 z) (h1 : lo ≤ z) (h2 : z ≤ hi) : g_B v (a_rf B x lo hi) := by
  obtain ⟨lg, o, c⟩ := x
  cases o with
  | none => exact hB
  | some i =>
    obtain ⟨w, e1, e2⟩ := hx
    simp only at e1 e2
    simp only [a_rf]
    cases hb : a_bd B i with
    | none =>
      intro q hq
      rcases List.mem_cons.mp hq with rfl | hq
      · exact ⟨w, e1, by show lo - c ≤ w; omega, by show w ≤ hi - c; omega⟩
      · exact hB q hq
    | some q0 =>
      obtain ⟨w2, h3, h4, h5⟩ := g_bd hB hb
      rw [e1] at h3
      cases h3
      intro q hq
      rcases List.mem_cons.mp hq with rfl | hq
      · exact ⟨w, e1, a_mx_le h4 (by omega), a_mn_ge h5 (by omega)⟩
      · exact hB q hq
/-- a comparison, of integers -/
def g_c (c : Jvm.ClassFile.Cond) (x y : Int) : Prop := match c with
  | .eq => x = y
  | .ne => ¬ x = y
  | .lt => x < y
  | .ge => y ≤ x
  | .gt => y < x
  | .le => x ≤ y
theorem g_c_swp {c : Jvm.ClassFile.Cond} {x y : Int} (h : g_c c x y) : g_c (a_swp c) y x := by
  cases c <;> simp only [g_c, a_swp] at * <;> omega
theorem g_c_opp {c : Jvm.ClassFile.Cond} {x y : Int} (h : ¬ g_c c x y) : g_c (a_opp c) x y := by
  cases c <;> simp only [g_c, a_opp] at * <;> omega
theorem g_lim {c : Jvm.ClassFile.Cond} {a b : Int × Int} {x y : Int} (ha : a.1 ≤ x ∧ x ≤ a.2) (hb : b.1 ≤ y ∧ y ≤ b.2) (h : g_c c x y) : (a_lim c a b).1 ≤ x ∧ x ≤ (a_lim c a b).2 := by
  cases c <;> simp only [g_c, a_lim] at *
  · omega
  · split
    · simp only; omega
    · split
      · simp only; omega
      · exact ha
  · omega
  · omega
  · omega
  · omega
theorem g_asm {v : List Int} {B : a_B} (hB : g_B v B) {c : Jvm.ClassFile.Cond} {x y : a_N} {z w : Int} (hx : g_lin v x.2.1 x.2.2 z) (hy : g_lin v y.2.1 y.2.2 w) (hz : x.2.1 = none ∨ g_in x.1 z) (hw : y.2.1 = none ∨ g_in y.1 w) (h : g_c c z w) : ∃ B1, a_asm B c x y = some B1 ∧ g_B v B1 := by
  have ha := g_iv hB hx hz
  have hb := g_iv hB hy hw
  have hp := g_lim ha hb h
  have hq := g_lim hb ha (g_c_swp h)
  unfold a_asm
  rw [if_pos ⟨Int.le_trans (a_mx_le ha.1 hp.1) (a_mn_ge ha.2 hp.2), Int.le_trans (a_mx_le hb.1 hq.1) (a_mn_ge hb.2 hq.2)⟩]
  exact ⟨_, rfl, g_rf (g_rf hB hx hp.1 hp.2) hy hq.1 hq.2⟩
theorem g_c32 (c : Jvm.ClassFile.Cond) (x y : Int32) : q_c c x y = true ↔ g_c c x.toInt y.toInt := by
  cases c <;> simp only [q_c, g_c, decide_eq_true_eq, Int32.lt_iff_toInt_lt, Int32.le_iff_toInt_le, Int32.toInt_inj]
/-- a number that a step makes -/
def g_R (v : List Int) (r : Nat × a_B × a_N) (lg : Bool) (z : Int) : Prop := ∃ t : List Int, (v ++ t).length = r.1 ∧ g_B (v ++ t) r.2.1 ∧ r.2.2.1 = lg ∧ g_lin (v ++ t) r.2.2.2.1 r.2.2.2.2 z
theorem g_R0 {v : List Int} {k : Nat} {B : a_B} (hk : v.length = k) (hB : g_B v B) {x : a_N} {lg : Bool} {z : Int} (h1 : x.1 = lg) (h2 : g_lin v x.2.1 x.2.2 z) : g_R v (k, B, x) lg z := ⟨[], by simpa using hk, by simpa using hB, h1, by simpa using h2⟩
theorem g_new {v : List Int} {k : Nat} {B : a_B} (hk : v.length = k) (hB : g_B v B) {lg : Bool} {lo hi z : Int} (h1 : lo ≤ z) (h2 : z ≤ hi) : g_R v (a_new k B lg lo hi) lg z := by
  have hv : (v ++ [z])[k]? = some z := by
    subst hk
    simp
  refine ⟨[z], by simp [a_new, hk], ?_, rfl, z, hv, by simp [a_new]⟩
  intro q hq
  rcases List.mem_cons.mp hq with rfl | hq
  · exact ⟨z, hv, h1, h2⟩
  · exact g_B_ext hB q hq
theorem g_top {v : List Int} {k : Nat} {B : a_B} (hk : v.length = k) (hB : g_B v B) {lg : Bool} {z : Int} (h : g_in lg z) : g_R v (a_top k B lg) lg z := g_new hk hB h.1 h.2
theorem g_bin32 {v : List Int} {k : Nat} {B : a_B} (hk : v.length = k) (hB : g_B v B) {op : Int32 → Int32 → Int32} {iv : Int × Int → Int × Int → Int × Int} {x y : a_N} {z w : Int32} (hx1 : x.1 = false) (hy1 : y.1 = false) (hx : g_lin v x.2.1 x.2.2 z.toInt) (hy : g_lin v y.2.1 y.2.2 w.toInt)
    (hiv : ∀ a b : Int × Int, a.1 ≤ z.toInt ∧ z.toInt ≤ a.2 → b.1 ≤ w.toInt ∧ w.toInt ≤ b.2 → (iv a b).1 ≤ (op z w).toInt ∧ (op z w).toInt ≤ (iv a b).2) : g_R v (a_bin32 k B op iv x y) false (op z w).toInt := by
  have ha := g_iv hB hx (by rw [hx1]; exact g_o32 z)
  have hb := g_iv hB hy (by rw [hy1]; exact g_o32 w)
  unfold a_bin32
  simp only
  split
  · rename_i h
    refine g_R0 hk hB rfl ?_
    have e1 : Int32.ofInt (a_iv B x).1 = z := by
      rw [show (a_iv B x).1 = z.toInt by omega]
      exact Int32.ofInt_toInt z
    have e2 : Int32.ofInt (a_iv B y).1 = w := by
      rw [show (a_iv B y).1 = w.toInt by omega]
      exact Int32.ofInt_toInt w
    rw [e1, e2]
    rfl
  · exact g_new hk hB (hiv _ _ ha hb).1 (hiv _ _ ha hb).2
theorem g_bin64 {v : List Int} {k : Nat} {B : a_B} (hk : v.length = k) (hB : g_B v B) {op : Int64 → Int64 → Int64} {iv : Int × Int → Int × Int → Int × Int} {x y : a_N} {z w : Int64} (hx1 : x.1 = true) (hy1 : y.1 = true) (hx : g_lin v x.2.1 x.2.2 z.toInt) (hy : g_lin v y.2.1 y.2.2 w.toInt)
    (hiv : ∀ a b : Int × Int, a.1 ≤ z.toInt ∧ z.toInt ≤ a.2 → b.1 ≤ w.toInt ∧ w.toInt ≤ b.2 → (iv a b).1 ≤ (op z w).toInt ∧ (op z w).toInt ≤ (iv a b).2) : g_R v (a_bin64 k B op iv x y) true (op z w).toInt := by
  have ha := g_iv hB hx (by rw [hx1]; exact g_o64 z)
  have hb := g_iv hB hy (by rw [hy1]; exact g_o64 w)
  unfold a_bin64
  simp only
  split
  · rename_i h
    refine g_R0 hk hB rfl ?_
    have e1 : Int64.ofInt (a_iv B x).1 = z := by
      rw [show (a_iv B x).1 = z.toInt by omega]
      exact Int64.ofInt_toInt z
    have e2 : Int64.ofInt (a_iv B y).1 = w := by
      rw [show (a_iv B y).1 = w.toInt by omega]
      exact Int64.ofInt_toInt w
    rw [e1, e2]
    rfl
  · exact g_new hk hB (hiv _ _ ha hb).1 (hiv _ _ ha hb).2
theorem g_all32 (x : Int32) (a b : Int × Int) : (a_all32 a b).1 ≤ x.toInt ∧ x.toInt ≤ (a_all32 a b).2 := g_in32 x
theorem g_all64 (x : Int64) (a b : Int × Int) : (a_all64 a b).1 ≤ x.toInt ∧ x.toInt ≤ (a_all64 a b).2 := g_in64 x
/-- within bounds an operation of 32 bits is the integers' own -/
theorem g_add32 {x y : Int32} (h : g_in false (x.toInt + y.toInt)) : (x + y).toInt = x.toInt + y.toInt := by
  rw [Int32.toInt_add]
  have h1 : (-2147483648 : Int) ≤ x.toInt + y.toInt := h.1
  have h2 : x.toInt + y.toInt ≤ (2147483647 : Int) := h.2
  exact Int.bmod_eq_of_le (by omega) (by omega)
theorem g_sub32 {x y : Int32} (h : g_in false (x.toInt - y.toInt)) : (x - y).toInt = x.toInt - y.toInt := by
  rw [Int32.toInt_sub]
  have h1 : (-2147483648 : Int) ≤ x.toInt - y.toInt := h.1
  have h2 : x.toInt - y.toInt ≤ (2147483647 : Int) := h.2
  exact Int.bmod_eq_of_le (by omega) (by omega)
theorem g_mul32 {x y : Int32} (h : g_in false (x.toInt * y.toInt)) : (x * y).toInt = x.toInt * y.toInt := by
  rw [Int32.toInt_mul]
  have h1 : (-2147483648 : Int) ≤ x.toInt * y.toInt := h.1
  have h2 : x.toInt * y.toInt ≤ (2147483647 : Int) := h.2
  exact Int.bmod_eq_of_le (by omega) (by omega)
theorem g_add64 {x y : Int64} (h : g_in true (x.toInt + y.toInt)) : (x + y).toInt = x.toInt + y.toInt := by
  rw [Int64.toInt_add]
  have h1 : (-9223372036854775808 : Int) ≤ x.toInt + y.toInt := h.1
  have h2 : x.toInt + y.toInt ≤ (9223372036854775807 : Int) := h.2
  exact Int.bmod_eq_of_le (by omega) (by omega)
theorem g_sub64 {x y : Int64} (h : g_in true (x.toInt - y.toInt)) : (x - y).toInt = x.toInt - y.toInt := by
  rw [Int64.toInt_sub]
  have h1 : (-9223372036854775808 : Int) ≤ x.toInt - y.toInt := h.1
  have h2 : x.toInt - y.toInt ≤ (9223372036854775807 : Int) := h.2
  exact Int.bmod_eq_of_le (by omega) (by omega)
end
section
theorem g_ca {α β : Type} {R : α → β → Prop} {a : α} {as : List α} {st : List β} (h : g_2 R (a :: as) st) : ∃ y ys, st = y :: ys ∧ R a y ∧ g_2 R as ys := by
  match st, h with
  | y :: ys, h => exact ⟨y, ys, rfl, h.1, h.2⟩
theorem g_na {α β : Type} {R : α → β → Prop} {st : List β} (h : g_2 R ([] : List α) st) : st = [] := by
  match st, h with
  | [], _ => rfl
abbrev g_s (b : Nat) (v : List Int) (sa : List a_V) (st : List Value) : Prop := g_2 (g_v b v) sa st
abbrev g_L (b : Nat) (v : List Int) (la : a_L) (l : q_L) : Prop := g_2 (fun (p : Nat × a_V) (q : Nat × Value) => p.1 = q.1 ∧ g_v b v p.2 q.2) la l
theorem g_s_ext {b : Nat} {v t : List Int} {sa : List a_V} {st : List Value} (h : g_s b v sa st) : g_s b (v ++ t) sa st := g_2_mono (fun _ _ => g_v_ext) h
theorem g_L_ext {b : Nat} {v t : List Int} {la : a_L} {l : q_L} (h : g_L b v la l) : g_L b (v ++ t) la l := g_2_mono (fun _ _ h => ⟨h.1, g_v_ext h.2⟩) h
theorem g_cat {b : Nat} {v : List Int} {x : a_V} {y : Value} (h : g_v b v x y) : a_cat x = y.category := by
  match x, h with
  | .inl (false, o, c), h =>
    obtain ⟨z, rfl, -⟩ := h
    rfl
  | .inl (true, o, c), h =>
    obtain ⟨z, rfl, -⟩ := h
    rfl
  | .inr (.inl (some k)), h =>
    have h : y = .ref k := h
    subst h
    rfl
  | .inr (.inl none), h =>
    have h : y = .null := h
    subst h
    rfl
  | .inr (.inr _), h =>
    have h : y = .retAddr b := h
    subst h
    rfl
theorem g_get {b : Nat} {v : List Int} : ∀ {la : a_L} {l : q_L}, g_L b v la l → ∀ {k : Nat} {x : a_V}, a_get la k = some x → ∃ y, q_get l k = some y ∧ g_v b v x y
  | [], [], _, k, x, h => by simp [a_get] at h
  | p :: la, q :: l, hh, k, x, h => by
    unfold a_get at h
    split at h
    · rename_i hb
      have hb := Nat.eq_of_beq_eq_true hb
      cases h
      refine ⟨q.2, ?_, hh.1.2⟩
      unfold q_get
      rw [if_pos (by rw [← hh.1.1]; exact hb)]
    · rename_i hb
      obtain ⟨y, h1, h2⟩ := g_get hh.2 h
      refine ⟨y, ?_, h2⟩
      unfold q_get
      rw [if_neg]
      · exact h1
      · intro hq
        rw [← hh.1.1] at hq
        rw [hq, Nat.beq_refl] at hb
        cases hb
  | [], _ :: _, hh, _, _, _ => hh.elim
  | _ :: _, [], hh, _, _, _ => hh.elim
theorem g_flt {b : Nat} {v : List Int} (F : Nat → Nat → Bool) : ∀ {la : a_L} {l : q_L}, g_L b v la l → g_L b v (la.filter (fun q => F q.1 (a_cat q.2))) (l.filter (fun q => F q.1 q.2.category))
  | [], [], _ => trivial
  | p :: la, q :: l, hh => by
    have ih := g_flt F hh.2
    have e1 : F p.1 (a_cat p.2) = F q.1 q.2.category := by rw [hh.1.1, g_cat hh.1.2]
    simp only [List.filter_cons, e1]
    split
    · exact ⟨hh.1, ih⟩
    · exact ih
  | [], _ :: _, hh => hh.elim
  | _ :: _, [], hh => hh.elim
theorem g_s1 {b : Nat} {v : List Int} {la : a_L} {l : q_L} (h : g_L b v la l) {i : Nat} {x : a_V} {y : Value} (hx : g_v b v x y) : g_L b v (a_s1 la i x) (q_s1 l i y) := ⟨⟨rfl, hx⟩, g_flt (fun a c => !(a == i) && !(a + 1 == i && c == 2)) h⟩
theorem g_s2 {b : Nat} {v : List Int} {la : a_L} {l : q_L} (h : g_L b v la l) {i : Nat} {x : a_V} {y : Value} (hx : g_v b v x y) : g_L b v (a_s2 la i x) (q_s2 l i y) := ⟨⟨rfl, hx⟩, g_flt (fun a c => !(a == i) && (!(a == i + 1) && !(a + 1 == i && c == 2))) h⟩
def g_PR (b : Nat) (v : List Int) (ps : List a_P) (res : Option (Nat × q_L × List Value)) : Prop := ∃ p ∈ ps, ∃ (t : List Int) (l1 : q_L) (st1 : List Value), res = some (p.2.2.1, l1, st1) ∧ (v ++ t).length = p.1 ∧ g_B (v ++ t) p.2.1 ∧ g_L b (v ++ t) p.2.2.2.1 l1 ∧ g_s b (v ++ t) p.2.2.2.2 st1
theorem g_P0 {b : Nat} {v : List Int} {k : Nat} {B : a_B} {pc : Nat} {la : a_L} {sa : List a_V} {ps : List a_P} {l : q_L} {st : List Value} {res : Option (Nat × q_L × List Value)} (hm : (k, B, pc, la, sa) ∈ ps) (hr : res = some (pc, l, st)) (hk : v.length = k) (hB : g_B v B) (hl : g_L b v la l) (hs : g_s b v sa st) : g_PR b v ps res :=
  ⟨_, hm, [], l, st, hr, by simpa using hk, by simpa using hB, by simpa using hl, by simpa using hs⟩
theorem g_P1 {b : Nat} {v : List Int} {z : Nat × a_B × a_N} {lg : Bool} {w : Int} (hR : g_R v z lg w) {y : Value} (hy : match lg with | false => ∃ c : Int32, y = .int c ∧ c.toInt = w | true => ∃ c : Int64, y = .long c ∧ c.toInt = w) {pc : Nat} {la : a_L} {sa : List a_V} {l : q_L} {st : List Value} {res : Option (Nat × q_L × List Value)} (hr : res = some (pc, l, y :: st)) (hl : g_L b v la l) (hs : g_s b v sa st) : g_PR b v [(z.1, z.2.1, pc, la, .inl z.2.2 :: sa)] res := by
  obtain ⟨t, h1, h2, h3, h4⟩ := hR
  refine ⟨_, List.mem_singleton.mpr rfl, t, l, _, hr, h1, h2, g_L_ext hl, ?_, g_s_ext hs⟩
  obtain ⟨k1, B1, lg1, o, c⟩ := z
  simp only at h3 h4
  subst h3
  cases lg1 with
  | false =>
    obtain ⟨c1, rfl, rfl⟩ := hy
    exact ⟨c1, rfl, h4⟩
  | true =>
    obtain ⟨c1, rfl, rfl⟩ := hy
    exact ⟨c1, rfl, h4⟩
theorem g_sum32 {x y : Int32} {a b : Int × Int} (hx : a.1 ≤ x.toInt ∧ x.toInt ≤ a.2) (hy : b.1 ≤ y.toInt ∧ y.toInt ≤ b.2) : (a_sum false a b).1 ≤ (x + y).toInt ∧ (x + y).toInt ≤ (a_sum false a b).2 := by
  unfold a_sum
  split
  · rename_i h
    rw [g_add32 ⟨Int.le_trans h.1 (by omega), Int.le_trans (by omega) h.2⟩]
    simp only
    omega
  · exact g_in32 _
theorem g_dif32 {x y : Int32} {a b : Int × Int} (hx : a.1 ≤ x.toInt ∧ x.toInt ≤ a.2) (hy : b.1 ≤ y.toInt ∧ y.toInt ≤ b.2) : (a_dif false a b).1 ≤ (x - y).toInt ∧ (x - y).toInt ≤ (a_dif false a b).2 := by
  unfold a_dif
  split
  · rename_i h
    rw [g_sub32 ⟨Int.le_trans h.1 (by omega), Int.le_trans (by omega) h.2⟩]
    simp only
    omega
  · exact g_in32 _
theorem g_sum64 {x y : Int64} {a b : Int × Int} (hx : a.1 ≤ x.toInt ∧ x.toInt ≤ a.2) (hy : b.1 ≤ y.toInt ∧ y.toInt ≤ b.2) : (a_sum true a b).1 ≤ (x + y).toInt ∧ (x + y).toInt ≤ (a_sum true a b).2 := by
  unfold a_sum
  split
  · rename_i h
    rw [g_add64 ⟨Int.le_trans h.1 (by omega), Int.le_trans (by omega) h.2⟩]
    simp only
    omega
  · exact g_in64 _
theorem g_dif64 {x y : Int64} {a b : Int × Int} (hx : a.1 ≤ x.toInt ∧ x.toInt ≤ a.2) (hy : b.1 ≤ y.toInt ∧ y.toInt ≤ b.2) : (a_dif true a b).1 ≤ (x - y).toInt ∧ (x - y).toInt ≤ (a_dif true a b).2 := by
  unfold a_dif
  split
  · rename_i h
    rw [g_sub64 ⟨Int.le_trans h.1 (by omega), Int.le_trans (by omega) h.2⟩]
    simp only
    omega
  · exact g_in64 _
theorem g_mulb {x y : Int32} {a b : Int × Int} (hx : a.1 ≤ x.toInt ∧ x.toInt ≤ a.2) (hy : b.1 ≤ y.toInt ∧ y.toInt ≤ b.2) : (a_mul a b).1 ≤ (x * y).toInt ∧ (x * y).toInt ≤ (a_mul a b).2 := by
  unfold a_mul
  split
  · rename_i h
    have h1 : 0 ≤ x.toInt * y.toInt := Int.mul_nonneg (by omega) (by omega)
    have h2 : x.toInt * y.toInt ≤ a.2 * b.2 := Int.mul_le_mul hx.2 hy.2 (by omega) (by omega)
    have h3 : a.1 * b.1 ≤ x.toInt * y.toInt := Int.mul_le_mul hx.1 hy.1 (by omega) (by omega)
    rw [g_mul32 ⟨by show (-2147483648 : Int) ≤ _; omega, by show _ ≤ (2147483647 : Int); omega⟩]
    exact ⟨h3, h2⟩
  · exact g_in32 _
theorem g_and_r {x y : Int32} (h : 0 ≤ y.toInt) : 0 ≤ (x &&& y).toInt ∧ (x &&& y).toInt ≤ y.toInt := by
  have e : y.toInt = (y.toBitVec.toNat : Int) ∧ y.toBitVec.toNat < 2 ^ 31 := by
    have h1 : y.toInt = y.toBitVec.toInt := rfl
    rw [h1, BitVec.toInt_eq_toNat_cond] at h ⊢
    have := y.toBitVec.isLt
    split at h <;> rename_i hc
    · rw [if_pos hc]
      exact ⟨rfl, by omega⟩
    · omega
  have h2 : (x &&& y).toBitVec.toNat = x.toBitVec.toNat &&& y.toBitVec.toNat := by simp
  have h3 : (x &&& y).toBitVec.toNat ≤ y.toBitVec.toNat := by rw [h2]; exact Nat.and_le_right
  have h4 : (x &&& y).toInt = ((x &&& y).toBitVec.toNat : Int) := by
    show (x &&& y).toBitVec.toInt = _
    rw [BitVec.toInt_eq_toNat_cond, if_pos (by omega)]
  rw [h4, e.1]
  omega
theorem g_and_l {x y : Int32} (h : 0 ≤ x.toInt) : 0 ≤ (x &&& y).toInt ∧ (x &&& y).toInt ≤ x.toInt := by
  rw [Int32.and_comm]
  exact g_and_r h
theorem g_mskb {x y : Int32} {a b : Int × Int} (hx : a.1 ≤ x.toInt ∧ x.toInt ≤ a.2) (hy : b.1 ≤ y.toInt ∧ y.toInt ≤ b.2) : (a_msk a b).1 ≤ (x &&& y).toInt ∧ (x &&& y).toInt ≤ (a_msk a b).2 := by
  unfold a_msk
  split
  · have := g_and_r (x := x) (y := y) (by omega)
    simp only
    omega
  · split
    · have := g_and_l (x := x) (y := y) (by omega)
      simp only
      omega
    · exact g_in32 _
theorem g_shf {v : List Int} {B : a_B} (hB : g_B v B) {x z : a_N} {w d : Int} (hx : g_lin v x.2.1 x.2.2 w) (hw : x.2.1 = none ∨ g_in x.1 w) {lg : Bool} (h : a_shf B lg x d = some z) : z.1 = lg ∧ g_lin v z.2.1 z.2.2 (w + d) ∧ g_in lg (w + d) := by
  unfold a_shf at h
  split at h
  · rename_i hc
    cases h
    have hi := g_iv hB hx hw
    refine ⟨rfl, ?_, Int.le_trans hc.1 (by omega), Int.le_trans (by omega) hc.2⟩
    obtain ⟨lx, o, c⟩ := x
    cases o with
    | none =>
      have : w = c := hx
      show w + d = c + d
      omega
    | some i =>
      obtain ⟨u, h1, h2⟩ := hx
      simp only at h1 h2
      exact ⟨u, h1, by show w + d = u + (c + d); omega⟩
  · cases h
theorem g_add {v : List Int} {k : Nat} {B : a_B} (hk : v.length = k) (hB : g_B v B) {x y : a_N} {z w : Int32} (hx1 : x.1 = false) (hy1 : y.1 = false) (hx : g_lin v x.2.1 x.2.2 z.toInt) (hy : g_lin v y.2.1 y.2.2 w.toInt) : g_R v (a_add k B x y) false (z + w).toInt := by
  unfold a_add
  split
  · rename_i zz h1 h2
    rw [h1] at hy
    have hy : w.toInt = y.2.2 := hy
    rw [← hy] at h2
    obtain ⟨e1, e2, e3⟩ := g_shf hB hx (by rw [hx1]; exact g_o32 z) h2
    rw [g_add32 e3]
    exact g_R0 hk hB e1 e2
  · exact g_bin32 hk hB hx1 hy1 hx hy (fun a b => g_sum32)
theorem g_sub {v : List Int} {k : Nat} {B : a_B} (hk : v.length = k) (hB : g_B v B) {x y : a_N} {z w : Int32} (hx1 : x.1 = false) (hy1 : y.1 = false) (hx : g_lin v x.2.1 x.2.2 z.toInt) (hy : g_lin v y.2.1 y.2.2 w.toInt) : g_R v (a_sub k B x y) false (z - w).toInt := by
  unfold a_sub
  split
  · rename_i zz h1 h2
    rw [h1] at hy
    have hy : w.toInt = y.2.2 := hy
    rw [← hy] at h2
    obtain ⟨e1, e2, e3⟩ := g_shf hB hx (by rw [hx1]; exact g_o32 z) h2
    rw [← Int.sub_eq_add_neg] at e2 e3
    rw [g_sub32 e3]
    exact g_R0 hk hB e1 e2
  · exact g_bin32 hk hB hx1 hy1 hx hy (fun a b => g_dif32)
theorem g_nz {v : List Int} {B : a_B} (hB : g_B v B) {y : a_N} {w : Int32} (hy1 : y.1 = false) (hy : g_lin v y.2.1 y.2.2 w.toInt) (h : 0 < (a_iv B y).1 ∨ (a_iv B y).2 < 0) : ¬ w = 0 := by
  intro h0
  subst h0
  have := g_iv hB hy (by rw [hy1]; exact g_o32 0)
  rw [Int32.toInt_zero] at this
  omega
theorem g_to {b : Nat} {v : List Int} {k : Nat} {o : Option a_B} {B : a_B} {pc : Nat} {off : Int} {la : a_L} {sa : List a_V} {ps : List a_P} {l : q_L} {st : List Value} (ho : o = some B) (h : a_to k o pc off la sa = some ps) (hk : v.length = k) (hB : g_B v B) (hl : g_L b v la l) (hs : g_s b v sa st) : g_PR b v ps (q_to pc off l st) := by
  subst ho
  unfold a_to at h
  simp only at h
  unfold q_to
  split at h
  · rename_i hc
    cases h
    exact g_P0 (List.mem_singleton.mpr rfl) (by rw [if_pos hc]) hk hB hl hs
  · cases h
theorem g_cat2 {x y : Option (List a_P)} {ps : List a_P} (h : a_cats2 x y = some ps) : ∃ a b, x = some a ∧ y = some b ∧ ps = a ++ b := by
  unfold a_cats2 at h
  split at h
  · cases h
    exact ⟨_, _, rfl, rfl, rfl⟩
  · cases h
theorem g_PRl {b : Nat} {v : List Int} {ps qs : List a_P} {res : Option (Nat × q_L × List Value)} (h : g_PR b v ps res) : g_PR b v (ps ++ qs) res := by
  obtain ⟨p, hp, h⟩ := h
  exact ⟨p, List.mem_append_left _ hp, h⟩
theorem g_PRr {b : Nat} {v : List Int} {ps qs : List a_P} {res : Option (Nat × q_L × List Value)} (h : g_PR b v qs res) : g_PR b v (ps ++ qs) res := by
  obtain ⟨p, hp, h⟩ := h
  exact ⟨p, List.mem_append_right _ hp, h⟩
theorem g_arm {b : Nat} {v : List Int} {o : Option a_B} {B : a_B} {k pc : Nat} {la : a_L} {sa : List a_V} {l : q_L} {st : List Value} {res : Option (Nat × q_L × List Value)} (ho : o = some B) (hr : res = some (pc, l, st)) (hk : v.length = k) (hB : g_B v B) (hl : g_L b v la l) (hs : g_s b v sa st) : g_PR b v (a_arm o k pc la sa) res := by
  subst ho
  exact g_P0 (List.mem_singleton.mpr rfl) hr hk hB hl hs
theorem g_pth {b : Nat} {v : List Int} {k : Nat} {B : a_B} {pc : Nat} {c : Jvm.ClassFile.Cond} {x y : a_N} {z w : Int32} {la : a_L} {sa : List a_V} {l : q_L} {st : List Value} {res : Option (Nat × q_L × List Value)} (hr : res = some (pc, l, st)) (hk : v.length = k) (hB : g_B v B) (hx1 : x.1 = false) (hy1 : y.1 = false) (hx : g_lin v x.2.1 x.2.2 z.toInt) (hy : g_lin v y.2.1 y.2.2 w.toInt) (hc : g_c c z.toInt w.toInt) (hl : g_L b v la l) (hs : g_s b v sa st) : g_PR b v (a_pth k B c x y pc la sa) res := by
  have key : ∀ c : Jvm.ClassFile.Cond, g_c c z.toInt w.toInt → g_PR b v (a_arm (a_asm B c x y) k pc la sa) res := fun c hc => by
    obtain ⟨B1, e1, g1⟩ := g_asm hB hx hy (by rw [hx1]; exact g_o32 z) (by rw [hy1]; exact g_o32 w) hc
    exact g_arm e1 hr hk g1 hl hs
  cases c with
  | ne =>
    have hc : ¬ z.toInt = w.toInt := hc
    rcases Int.lt_or_gt_of_ne hc with h | h
    · exact g_PRl (key .lt h)
    · exact g_PRr (key .gt h)
  | _ => exact key _ hc
theorem g_br {b : Nat} {v : List Int} {k : Nat} {B : a_B} {pc len : Nat} {off : Int} {c : Jvm.ClassFile.Cond} {x y : a_N} {z w : Int32} {la : a_L} {sa : List a_V} {ps : List a_P} {l : q_L} {st : List Value} (h : a_br k B pc len off c x y la sa = some ps) (hk : v.length = k) (hB : g_B v B) (hx1 : x.1 = false) (hy1 : y.1 = false) (hx : g_lin v x.2.1 x.2.2 z.toInt) (hy : g_lin v y.2.1 y.2.2 w.toInt) (hl : g_L b v la l) (hs : g_s b v sa st) : g_PR b v ps (q_br pc len off (q_c c z w) l st) := by
  unfold a_br at h
  split at h
  rotate_left
  · cases h
  rename_i hpc
  cases h
  unfold q_br
  rw [if_pos hpc]
  cases hq : q_c c z w with
  | true => exact g_PRl (g_pth rfl hk hB hx1 hy1 hx hy ((g_c32 c z w).mp hq) hl hs)
  | false => exact g_PRr (g_pth rfl hk hB hx1 hy1 hx hy (g_c_opp (fun hc => by rw [(g_c32 c z w).mpr hc] at hq; cases hq)) hl hs)
theorem g_shrb {x y : Int32} {a b : Int × Int} (hx : a.1 ≤ x.toInt ∧ x.toInt ≤ a.2) : (a_shr a b).1 ≤ (x >>> (y &&& 31)).toInt ∧ (x >>> (y &&& 31)).toInt ≤ (a_shr a b).2 := by
  rw [pk_shr x (y &&& 31) _ rfl]
  generalize ((y &&& 31).toBitVec.smod 32).toNat = k
  rw [Int.shiftRight_eq_div_pow]
  have hp : (0 : Int) < ((2 ^ k : Nat) : Int) := by exact_mod_cast Nat.two_pow_pos k
  generalize ((2 ^ k : Nat) : Int) = d at hp
  unfold a_shr
  by_cases h0 : 0 ≤ x.toInt
  · have h1 : 0 ≤ x.toInt / d := Int.ediv_nonneg h0 (Int.le_of_lt hp)
    have h2 : x.toInt / d ≤ x.toInt := Int.ediv_le_self _ h0
    split
    · exact ⟨h1, Int.le_trans h2 hx.2⟩
    · exact ⟨by simp only; omega, Int.le_trans (Int.le_trans h2 hx.2) (a_mx_l _ _)⟩
  · have h1 : x.toInt / d ≤ -1 := by
      have := Int.ediv_neg_of_neg_of_pos (a := x.toInt) (b := d) (by omega) hp
      omega
    have h2 : x.toInt ≤ x.toInt / d := by
      have e := Int.mul_ediv_add_emod x.toInt d
      have e2 := Int.emod_nonneg x.toInt (Int.ne_of_gt hp)
      have e4 : d * (x.toInt / d) ≤ 1 * (x.toInt / d) := Int.mul_le_mul_of_nonpos_right (by omega) (by omega)
      have e3 := Int.emod_lt_of_pos x.toInt hp
      by_cases q : x.toInt / d < x.toInt
      · exfalso
        have e5 : d * (x.toInt / d) ≤ d * (x.toInt - 1) := Int.mul_le_mul_of_nonneg_left (by omega) (by omega)
        have e6 : d * (x.toInt - 1) = d * x.toInt - d := by rw [Int.mul_sub, Int.mul_one]
        have e7 : d * x.toInt ≤ 1 * x.toInt := Int.mul_le_mul_of_nonpos_right (by omega) (by omega)
        omega
      · omega
    split
    · omega
    · exact ⟨Int.le_trans hx.1 h2, Int.le_trans h1 (a_mx_r _ _)⟩
theorem g_tab {b : Nat} {v : List Int} {k : Nat} {B : a_B} {pc : Nat} {x : a_N} {z : Int32} {la : a_L} {sa : List a_V} {l : q_L} {st : List Value} (hk : v.length = k) (hB : g_B v B) (hx1 : x.1 = false) (hx : g_lin v x.2.1 x.2.2 z.toInt) (hl : g_L b v la l) (hs : g_s b v sa st) :
    ∀ (offs : List Int) (j : Int) (ps : List a_P), a_tab k B pc x la sa j offs = some ps → ∀ (n : Nat) (off : Int), offs[n]? = some off → z.toInt = j + n → g_PR b v ps (q_to pc off l st)
  | [], j, ps, h, n, off, hn, hz => by simp at hn
  | o :: offs, j, ps, h, 0, off, hn, hz => by
    simp at hn
    subst hn
    unfold a_tab at h
    obtain ⟨p1, p2, e1, e2, rfl⟩ := g_cat2 h
    obtain ⟨B1, h1, h2⟩ := g_asm (c := .eq) (y := (false, none, j)) hB hx (w := j) rfl (by rw [hx1]; exact g_o32 z) (Or.inl rfl) (by show z.toInt = j; omega)
    exact g_PRl (g_to h1 e1 hk h2 hl hs)
  | o :: offs, j, ps, h, n + 1, off, hn, hz => by
    simp at hn
    unfold a_tab at h
    obtain ⟨p1, p2, e1, e2, rfl⟩ := g_cat2 h
    exact g_PRr (g_tab hk hB hx1 hx hl hs offs (j + 1) p2 e2 n off hn (by omega))
end
section
theorem g_lkp {b : Nat} {v : List Int} {k : Nat} {pc : Nat} {x : a_N} {z : Int32} {la : a_L} {sa : List a_V} {l : q_L} {st : List Value} {d : Int} (hk : v.length = k) (hx1 : x.1 = false) (hx : g_lin v x.2.1 x.2.2 z.toInt) (hl : g_L b v la l) (hs : g_s b v sa st) :
    ∀ (ps : List (Int × Int)) (o : Option a_B) (B : a_B) (rs : List a_P), o = some B → g_B v B → a_lkp k pc x la sa d o ps = some rs → g_PR b v rs (q_to pc (Op.lookupswitch.offset ps d z.toInt) l st)
  | [], o, B, rs, ho, hB, h => by
    subst ho
    unfold a_lkp at h
    exact g_to rfl h hk hB hl hs
  | p :: ps, o, B, rs, ho, hB, h => by
    subst ho
    unfold a_lkp at h
    obtain ⟨p1, p2, e1, e2, rfl⟩ := g_cat2 h
    obtain ⟨a, off⟩ := p
    rw [Op.lookupswitch.offset_cons]
    by_cases hz : z.toInt = a
    · rw [if_pos (by first | exact hz | exact hz.symm | simpa using hz | simpa using hz.symm)]
      obtain ⟨B1, h1, h2⟩ := g_asm (c := .eq) (y := (false, none, a)) hB hx (w := a) rfl (by rw [hx1]; exact g_o32 z) (Or.inl rfl) hz
      exact g_PRl (g_to h1 e1 hk h2 hl hs)
    · rw [if_neg (by first | exact hz | exact fun q => hz q.symm | simpa using hz | simpa using fun q => hz q.symm)]
      obtain ⟨B1, h1, h2⟩ := g_asm (c := .ne) (y := (false, none, a)) hB hx (w := a) rfl (by rw [hx1]; exact g_o32 z) (Or.inl rfl) hz
      exact g_PRr (g_lkp hk hx1 hx hl hs ps _ B1 p2 h1 h2 e2)
theorem g_s8 {x : Int32} (h1 : -128 ≤ x.toInt) (h2 : x.toInt ≤ 127) : x.toInt8.toInt32 = x := by
  rw [← Int32.toInt_inj, Int8.toInt_toInt32, Int32.toInt_toInt8]
  exact Int.bmod_eq_of_le (by omega) (by omega)
theorem g_s16 {x : Int32} (h1 : -32768 ≤ x.toInt) (h2 : x.toInt ≤ 32767) : x.toInt16.toInt32 = x := by
  rw [← Int32.toInt_inj, Int16.toInt_toInt32, Int32.toInt_toInt16]
  exact Int.bmod_eq_of_le (by omega) (by omega)
theorem g_b8 (x : Int32) : -128 ≤ x.toInt8.toInt32.toInt ∧ x.toInt8.toInt32.toInt ≤ 127 := by
  rw [Int8.toInt_toInt32]
  have h1 := Int8.le_toInt x.toInt8
  have h2 := Int8.toInt_lt x.toInt8
  omega
theorem g_b16 (x : Int32) : -32768 ≤ x.toInt16.toInt32.toInt ∧ x.toInt16.toInt32.toInt ≤ 32767 := by
  rw [Int16.toInt_toInt32]
  have h1 := Int16.le_toInt x.toInt16
  have h2 := Int16.toInt_lt x.toInt16
  omega
theorem g_l2i {x : Int64} (h1 : -2147483648 ≤ x.toInt) (h2 : x.toInt ≤ 2147483647) : x.toInt32.toInt = x.toInt := by
  rw [Int64.toInt_toInt32]
  exact Int.bmod_eq_of_le (by omega) (by omega)
theorem g_pure {b : Nat} {v : List Int} {k : Nat} {B : a_B} {nL pc len : Nat} {i : Instr} {la : a_L} {sa : List a_V} {ps : List a_P} {l : q_L} {st : List Value} (h : a_pure k B nL pc len i la sa = some ps) (hk : v.length = k) (hB : g_B v B) (hl : g_L b v la l) (hs : g_s b v sa st) : g_PR b v ps (q_pure nL pc len i l st) := by
  unfold a_pure at h
  split at h
  · -- iconst
    cases h
    exact g_P0 (List.mem_singleton.mpr rfl) rfl hk hB hl ⟨⟨_, rfl, rfl⟩, hs⟩
  · -- a long
    cases h
    exact g_P0 (List.mem_singleton.mpr rfl) rfl hk hB hl ⟨⟨_, rfl, rfl⟩, hs⟩
  · -- iload
    split at h
    rotate_left
    · cases h
    rename_i hg
    cases h
    obtain ⟨y, h1, h2⟩ := g_get hl hg
    obtain ⟨z, rfl, h3⟩ := h2
    exact g_P0 (st := .int z :: st) (List.mem_singleton.mpr rfl) (by simp only [q_pure, h1]) hk hB hl ⟨⟨z, rfl, h3⟩, hs⟩
  · -- lload
    split at h
    rotate_left
    · cases h
    rename_i hg
    cases h
    obtain ⟨y, h1, h2⟩ := g_get hl hg
    obtain ⟨z, rfl, h3⟩ := h2
    exact g_P0 (st := .long z :: st) (List.mem_singleton.mpr rfl) (by simp only [q_pure, h1]) hk hB hl ⟨⟨z, rfl, h3⟩, hs⟩
  · -- aload
    split at h
    · rename_i hg
      cases h
      obtain ⟨y, h1, h2⟩ := g_get hl hg
      have h2 : y = _ := h2
      subst h2
      exact g_P0 (st := .ref _ :: st) (List.mem_singleton.mpr rfl) (by simp only [q_pure, h1]) hk hB hl ⟨rfl, hs⟩
    · rename_i hg
      cases h
      obtain ⟨y, h1, h2⟩ := g_get hl hg
      have h2 : y = _ := h2
      subst h2
      exact g_P0 (st := .retAddr b :: st) (List.mem_singleton.mpr rfl) (by simp only [q_pure, h1]) hk hB hl ⟨rfl, hs⟩
    · cases h
  · -- istore
    split at h
    rotate_left
    · cases h
    split at h
    rotate_left
    · cases h
    rename_i hn
    cases h
    obtain ⟨y, ys, rfl, hy, hr⟩ := g_ca hs
    have hy0 := hy
    obtain ⟨z, rfl, h3⟩ := hy
    exact g_P0 (l := q_s1 l _ (.int z)) (st := ys) (List.mem_singleton.mpr rfl) (by simp only [q_pure, if_pos hn]) hk hB (g_s1 hl hy0) hr
  · -- astore
    split at h
    rotate_left
    · cases h
    split at h
    rotate_left
    · cases h
    rename_i hn
    cases h
    obtain ⟨y, ys, rfl, hy, hr⟩ := g_ca hs
    have hy0 := hy
    have hy : y = _ := hy
    subst hy
    exact g_P0 (l := q_s1 l _ (.ref _)) (st := ys) (List.mem_singleton.mpr rfl) (by simp only [q_pure, if_pos hn]) hk hB (g_s1 hl hy0) hr
  · -- lstore
    split at h
    rotate_left
    · cases h
    split at h
    rotate_left
    · cases h
    rename_i hn
    cases h
    obtain ⟨y, ys, rfl, hy, hr⟩ := g_ca hs
    have hy0 := hy
    obtain ⟨z, rfl, h3⟩ := hy
    exact g_P0 (l := q_s2 l _ (.long z)) (st := ys) (List.mem_singleton.mpr rfl) (by simp only [q_pure, if_pos hn]) hk hB (g_s2 hl hy0) hr
  · -- iinc
    rename_i jj nn
    split at h
    rotate_left
    · cases h
    rename_i hg
    split at h
    rotate_left
    · cases h
    rename_i hn
    obtain ⟨y, h1, h2⟩ := g_get hl hg
    obtain ⟨z, rfl, h3⟩ := h2
    rename_i o c
    have hR := g_add hk hB (x := (false, _, _)) (y := (false, none, (Int32.ofInt nn).toInt)) rfl rfl h3 (w := Int32.ofInt nn) rfl
    split at h
    rename_i k1 B1 zz hz
    cases h
    rw [hz] at hR
    obtain ⟨t, g1, g2, g3, g4⟩ := hR
    refine ⟨_, List.mem_singleton.mpr rfl, t, q_s1 l jj (.int (z + Int32.ofInt nn)), st, by simp only [q_pure, h1, if_pos hn], g1, g2, g_s1 (g_L_ext hl) ?_, g_s_ext hs⟩
    obtain ⟨lg, oo, cc⟩ := zz
    simp only at g3 g4
    subst g3
    exact ⟨_, rfl, g4⟩
  · -- iadd
    split at h
    rotate_left
    · cases h
    obtain ⟨y, ys, rfl, hy, hs1⟩ := g_ca hs
    replace hs := hs1
    obtain ⟨x, xs, rfl, hx, hs1⟩ := g_ca hs
    replace hs := hs1
    obtain ⟨w, rfl, hy⟩ := hy
    obtain ⟨z, rfl, hx⟩ := hx
    cases h
    exact g_P1 (lg := false) (g_add hk hB rfl rfl hx hy) ⟨_, rfl, rfl⟩ rfl hl hs
  · -- isub
    split at h
    rotate_left
    · cases h
    obtain ⟨y, ys, rfl, hy, hs1⟩ := g_ca hs
    replace hs := hs1
    obtain ⟨x, xs, rfl, hx, hs1⟩ := g_ca hs
    replace hs := hs1
    obtain ⟨w, rfl, hy⟩ := hy
    obtain ⟨z, rfl, hx⟩ := hx
    cases h
    exact g_P1 (lg := false) (g_sub hk hB rfl rfl hx hy) ⟨_, rfl, rfl⟩ rfl hl hs
  · -- imul
    split at h
    rotate_left
    · cases h
    obtain ⟨y, ys, rfl, hy, hs1⟩ := g_ca hs
    replace hs := hs1
    obtain ⟨x, xs, rfl, hx, hs1⟩ := g_ca hs
    replace hs := hs1
    obtain ⟨w, rfl, hy⟩ := hy
    obtain ⟨z, rfl, hx⟩ := hx
    cases h
    exact g_P1 (lg := false) (g_bin32 hk hB rfl rfl hx hy (fun _ _ => g_mulb)) ⟨_, rfl, rfl⟩ rfl hl hs
  · -- iand
    split at h
    rotate_left
    · cases h
    obtain ⟨y, ys, rfl, hy, hs1⟩ := g_ca hs
    replace hs := hs1
    obtain ⟨x, xs, rfl, hx, hs1⟩ := g_ca hs
    replace hs := hs1
    obtain ⟨w, rfl, hy⟩ := hy
    obtain ⟨z, rfl, hx⟩ := hx
    cases h
    exact g_P1 (lg := false) (g_bin32 hk hB rfl rfl hx hy (fun _ _ => g_mskb)) ⟨_, rfl, rfl⟩ rfl hl hs
  · -- ior
    split at h
    rotate_left
    · cases h
    obtain ⟨y, ys, rfl, hy, hs1⟩ := g_ca hs
    replace hs := hs1
    obtain ⟨x, xs, rfl, hx, hs1⟩ := g_ca hs
    replace hs := hs1
    obtain ⟨w, rfl, hy⟩ := hy
    obtain ⟨z, rfl, hx⟩ := hx
    cases h
    exact g_P1 (lg := false) (g_bin32 hk hB rfl rfl hx hy (fun a b _ _ => g_all32 _ a b)) ⟨_, rfl, rfl⟩ rfl hl hs
  · -- ixor
    split at h
    rotate_left
    · cases h
    obtain ⟨y, ys, rfl, hy, hs1⟩ := g_ca hs
    replace hs := hs1
    obtain ⟨x, xs, rfl, hx, hs1⟩ := g_ca hs
    replace hs := hs1
    obtain ⟨w, rfl, hy⟩ := hy
    obtain ⟨z, rfl, hx⟩ := hx
    cases h
    exact g_P1 (lg := false) (g_bin32 hk hB rfl rfl hx hy (fun a b _ _ => g_all32 _ a b)) ⟨_, rfl, rfl⟩ rfl hl hs
  · -- ishl
    split at h
    rotate_left
    · cases h
    obtain ⟨y, ys, rfl, hy, hs1⟩ := g_ca hs
    replace hs := hs1
    obtain ⟨x, xs, rfl, hx, hs1⟩ := g_ca hs
    replace hs := hs1
    obtain ⟨w, rfl, hy⟩ := hy
    obtain ⟨z, rfl, hx⟩ := hx
    cases h
    exact g_P1 (lg := false) (g_bin32 hk hB rfl rfl hx hy (fun a b _ _ => g_all32 _ a b)) ⟨_, rfl, rfl⟩ rfl hl hs
  · -- ishr
    split at h
    rotate_left
    · cases h
    obtain ⟨y, ys, rfl, hy, hs1⟩ := g_ca hs
    replace hs := hs1
    obtain ⟨x, xs, rfl, hx, hs1⟩ := g_ca hs
    replace hs := hs1
    obtain ⟨w, rfl, hy⟩ := hy
    obtain ⟨z, rfl, hx⟩ := hx
    cases h
    exact g_P1 (lg := false) (g_bin32 hk hB rfl rfl hx hy (fun _ _ h1 _ => g_shrb h1)) ⟨_, rfl, rfl⟩ rfl hl hs
  · -- iushr
    split at h
    rotate_left
    · cases h
    obtain ⟨y, ys, rfl, hy, hs1⟩ := g_ca hs
    replace hs := hs1
    obtain ⟨x, xs, rfl, hx, hs1⟩ := g_ca hs
    replace hs := hs1
    obtain ⟨w, rfl, hy⟩ := hy
    obtain ⟨z, rfl, hx⟩ := hx
    cases h
    exact g_P1 (lg := false) (g_bin32 hk hB rfl rfl hx hy (fun a b _ _ => g_all32 _ a b)) ⟨_, rfl, rfl⟩ rfl hl hs
  · -- idiv
    split at h
    rotate_left
    · cases h
    split at h
    rotate_left
    · cases h
    rename_i hnz
    obtain ⟨y, ys, rfl, hy, hs1⟩ := g_ca hs
    replace hs := hs1
    obtain ⟨x, xs, rfl, hx, hs1⟩ := g_ca hs
    replace hs := hs1
    obtain ⟨w, rfl, hy⟩ := hy
    obtain ⟨z, rfl, hx⟩ := hx
    have hw := g_nz hB rfl hy hnz
    cases h
    exact g_P1 (lg := false) (g_bin32 hk hB rfl rfl hx hy (fun a b _ _ => g_all32 _ a b)) ⟨_, rfl, rfl⟩ (by simp only [q_pure, if_neg hw]) hl hs
  · -- irem
    split at h
    rotate_left
    · cases h
    split at h
    rotate_left
    · cases h
    rename_i hnz
    obtain ⟨y, ys, rfl, hy, hs1⟩ := g_ca hs
    replace hs := hs1
    obtain ⟨x, xs, rfl, hx, hs1⟩ := g_ca hs
    replace hs := hs1
    obtain ⟨w, rfl, hy⟩ := hy
    obtain ⟨z, rfl, hx⟩ := hx
    have hw := g_nz hB rfl hy hnz
    cases h
    exact g_P1 (lg := false) (g_bin32 hk hB rfl rfl hx hy (fun a b _ _ => g_all32 _ a b)) ⟨_, rfl, rfl⟩ (by simp only [q_pure, if_neg hw]) hl hs
  · -- ladd
    split at h
    rotate_left
    · cases h
    obtain ⟨y, ys, rfl, hy, hs1⟩ := g_ca hs
    replace hs := hs1
    obtain ⟨x, xs, rfl, hx, hs1⟩ := g_ca hs
    replace hs := hs1
    obtain ⟨w, rfl, hy⟩ := hy
    obtain ⟨z, rfl, hx⟩ := hx
    cases h
    exact g_P1 (lg := true) (g_bin64 hk hB rfl rfl hx hy (fun _ _ => g_sum64)) ⟨_, rfl, rfl⟩ rfl hl hs
  · -- lsub
    split at h
    rotate_left
    · cases h
    obtain ⟨y, ys, rfl, hy, hs1⟩ := g_ca hs
    replace hs := hs1
    obtain ⟨x, xs, rfl, hx, hs1⟩ := g_ca hs
    replace hs := hs1
    obtain ⟨w, rfl, hy⟩ := hy
    obtain ⟨z, rfl, hx⟩ := hx
    cases h
    exact g_P1 (lg := true) (g_bin64 hk hB rfl rfl hx hy (fun _ _ => g_dif64)) ⟨_, rfl, rfl⟩ rfl hl hs
  · -- lmul
    split at h
    rotate_left
    · cases h
    obtain ⟨y, ys, rfl, hy, hs1⟩ := g_ca hs
    replace hs := hs1
    obtain ⟨x, xs, rfl, hx, hs1⟩ := g_ca hs
    replace hs := hs1
    obtain ⟨w, rfl, hy⟩ := hy
    obtain ⟨z, rfl, hx⟩ := hx
    cases h
    exact g_P1 (lg := true) (g_bin64 hk hB rfl rfl hx hy (fun a b _ _ => g_all64 _ a b)) ⟨_, rfl, rfl⟩ rfl hl hs
  · -- land
    split at h
    rotate_left
    · cases h
    obtain ⟨y, ys, rfl, hy, hs1⟩ := g_ca hs
    replace hs := hs1
    obtain ⟨x, xs, rfl, hx, hs1⟩ := g_ca hs
    replace hs := hs1
    obtain ⟨w, rfl, hy⟩ := hy
    obtain ⟨z, rfl, hx⟩ := hx
    cases h
    exact g_P1 (lg := true) (g_top hk hB (g_in64 _)) ⟨_, rfl, rfl⟩ rfl hl hs
  · -- lor
    split at h
    rotate_left
    · cases h
    obtain ⟨y, ys, rfl, hy, hs1⟩ := g_ca hs
    replace hs := hs1
    obtain ⟨x, xs, rfl, hx, hs1⟩ := g_ca hs
    replace hs := hs1
    obtain ⟨w, rfl, hy⟩ := hy
    obtain ⟨z, rfl, hx⟩ := hx
    cases h
    exact g_P1 (lg := true) (g_top hk hB (g_in64 _)) ⟨_, rfl, rfl⟩ rfl hl hs
  · -- lshl
    split at h
    rotate_left
    · cases h
    obtain ⟨y, ys, rfl, hy, hs1⟩ := g_ca hs
    replace hs := hs1
    obtain ⟨x, xs, rfl, hx, hs1⟩ := g_ca hs
    replace hs := hs1
    obtain ⟨w, rfl, hy⟩ := hy
    obtain ⟨z, rfl, hx⟩ := hx
    cases h
    exact g_P1 (lg := true) (g_top hk hB (g_in64 _)) ⟨_, rfl, rfl⟩ rfl hl hs
  · -- lshr
    split at h
    rotate_left
    · cases h
    obtain ⟨y, ys, rfl, hy, hs1⟩ := g_ca hs
    replace hs := hs1
    obtain ⟨x, xs, rfl, hx, hs1⟩ := g_ca hs
    replace hs := hs1
    obtain ⟨w, rfl, hy⟩ := hy
    obtain ⟨z, rfl, hx⟩ := hx
    cases h
    exact g_P1 (lg := true) (g_top hk hB (g_in64 _)) ⟨_, rfl, rfl⟩ rfl hl hs
  · -- i2l
    split at h
    rotate_left
    · cases h
    obtain ⟨y, ys, rfl, hy, hs1⟩ := g_ca hs
    replace hs := hs1
    obtain ⟨w, rfl, hy⟩ := hy
    cases h
    have hi := g_iv hB hy (g_o32 w)
    refine g_P0 (List.mem_singleton.mpr rfl) rfl hk ?_ hl ⟨⟨w.toInt64, rfl, by rw [Int32.toInt_toInt64]; exact hy⟩, hs⟩
    split
    · exact g_rf hB hy hi.1 hi.2
    · exact hB
  · -- l2i
    split at h
    rotate_left
    · cases h
    obtain ⟨y, ys, rfl, hy, hs1⟩ := g_ca hs
    replace hs := hs1
    obtain ⟨w, rfl, hy⟩ := hy
    have hi := g_iv hB hy (g_o64 w)
    split at h
    · rename_i hc
      cases h
      exact g_P0 (List.mem_singleton.mpr rfl) rfl hk hB hl ⟨⟨w.toInt32, rfl, by rw [g_l2i (by omega) (by omega)]; exact hy⟩, hs⟩
    · cases h
      exact g_P1 (lg := false) (g_top hk hB (g_in32 w.toInt32)) ⟨_, rfl, rfl⟩ rfl hl hs
  · -- i2b
    split at h
    rotate_left
    · cases h
    obtain ⟨y, ys, rfl, hy, hs1⟩ := g_ca hs
    replace hs := hs1
    obtain ⟨w, rfl, hy⟩ := hy
    have hi := g_iv hB hy (g_o32 w)
    split at h
    · rename_i hc
      cases h
      exact g_P0 (List.mem_singleton.mpr rfl) rfl hk hB hl ⟨⟨w.toInt8.toInt32, rfl, by rw [g_s8 (by omega) (by omega)]; exact hy⟩, hs⟩
    · cases h
      exact g_P1 (lg := false) (g_new hk hB (g_b8 w).1 (g_b8 w).2) ⟨_, rfl, rfl⟩ rfl hl hs
  · -- i2s
    split at h
    rotate_left
    · cases h
    obtain ⟨y, ys, rfl, hy, hs1⟩ := g_ca hs
    replace hs := hs1
    obtain ⟨w, rfl, hy⟩ := hy
    have hi := g_iv hB hy (g_o32 w)
    split at h
    · rename_i hc
      cases h
      exact g_P0 (List.mem_singleton.mpr rfl) rfl hk hB hl ⟨⟨w.toInt16.toInt32, rfl, by rw [g_s16 (by omega) (by omega)]; exact hy⟩, hs⟩
    · cases h
      exact g_P1 (lg := false) (g_new hk hB (g_b16 w).1 (g_b16 w).2) ⟨_, rfl, rfl⟩ rfl hl hs
  · -- ineg
    split at h
    rotate_left
    · cases h
    obtain ⟨y, ys, rfl, hy, hs1⟩ := g_ca hs
    replace hs := hs1
    obtain ⟨w, rfl, hy⟩ := hy
    cases h
    exact g_P1 (lg := false) (g_bin32 hk hB (x := (false, none, 0)) (z := 0) rfl rfl (by show (0 : Int32).toInt = 0; rfl) hy (fun a b _ _ => g_all32 _ a b)) ⟨_, rfl, rfl⟩ rfl hl hs
  · -- lcmp
    split at h
    rotate_left
    · cases h
    obtain ⟨y, ys, rfl, hy, hs1⟩ := g_ca hs
    replace hs := hs1
    obtain ⟨x, xs, rfl, hx, hs1⟩ := g_ca hs
    replace hs := hs1
    obtain ⟨w, rfl, hy⟩ := hy
    obtain ⟨z, rfl, hx⟩ := hx
    cases h
    by_cases h1 : w < z
    · have e1 : lg_cmp z w = 1 := by simp [lg_cmp, h1]
      obtain ⟨B1, a1, a2⟩ := g_asm (c := .gt) hB hx hy (g_o64 z) (g_o64 w) (Int64.lt_iff_toInt_lt.mp h1)
      exact g_PRr (g_arm a1 rfl hk a2 hl ⟨⟨_, rfl, by rw [e1]; rfl⟩, hs⟩)
    · by_cases h2 : z = w
      · have e1 : lg_cmp z w = 0 := by simp [lg_cmp, h2]
        obtain ⟨B1, a1, a2⟩ := g_asm (c := .eq) hB hx hy (g_o64 z) (g_o64 w) (by show z.toInt = w.toInt; rw [h2])
        exact g_PRl (g_PRr (g_arm a1 rfl hk a2 hl ⟨⟨_, rfl, by rw [e1]; rfl⟩, hs⟩))
      · have e1 : lg_cmp z w = -1 := by simp [lg_cmp, h1, h2]
        obtain ⟨B1, a1, a2⟩ := g_asm (c := .lt) hB hx hy (g_o64 z) (g_o64 w) (by
          show z.toInt < w.toInt
          have n1 : ¬ w.toInt < z.toInt := fun q => h1 (Int64.lt_iff_toInt_lt.mpr q)
          have n2 : ¬ z.toInt = w.toInt := fun q => h2 (Int64.toInt_inj.mp q)
          omega)
        exact g_PRl (g_PRl (g_arm a1 rfl hk a2 hl ⟨⟨_, rfl, by rw [e1]; rfl⟩, hs⟩))
  · -- dup
    split at h
    rotate_left
    · cases h
    split at h
    rotate_left
    · cases h
    rename_i hc
    cases h
    obtain ⟨y, ys, rfl, hy, hs1⟩ := g_ca hs
    replace hs := hs1
    exact g_P0 (st := y :: y :: ys) (List.mem_singleton.mpr rfl) (by simp only [q_pure, if_pos ((g_cat hy).symm.trans hc)]) hk hB hl ⟨hy, hy, hs⟩
  · -- pop
    split at h
    rotate_left
    · cases h
    split at h
    rotate_left
    · cases h
    rename_i hc
    cases h
    obtain ⟨y, ys, rfl, hy, hs1⟩ := g_ca hs
    replace hs := hs1
    exact g_P0 (st := ys) (List.mem_singleton.mpr rfl) (by simp only [q_pure, if_pos ((g_cat hy).symm.trans hc)]) hk hB hl hs
  · -- dup2
    split at h
    rotate_left
    · cases h
    split at h
    rotate_left
    · cases h
    rename_i hc
    cases h
    obtain ⟨y, ys, rfl, hy, hs1⟩ := g_ca hs
    replace hs := hs1
    obtain ⟨x, xs, rfl, hx, hs1⟩ := g_ca hs
    replace hs := hs1
    have c1 := (g_cat hy).symm.trans hc.1
    have c2 := (g_cat hx).symm.trans hc.2
    exact g_P0 (st := y :: x :: y :: x :: xs) (List.mem_singleton.mpr rfl) (by simp only [q_pure]; rw [if_neg (by omega), if_pos ⟨c1, c2⟩]) hk hB hl ⟨hy, hx, hy, hx, hs⟩
  · -- pop2
    split at h
    rotate_left
    · cases h
    split at h
    rotate_left
    · cases h
    rename_i hc
    cases h
    obtain ⟨y, ys, rfl, hy, hs1⟩ := g_ca hs
    replace hs := hs1
    exact g_P0 (st := ys) (List.mem_singleton.mpr rfl) (by simp only [q_pure, if_pos ((g_cat hy).symm.trans hc)]) hk hB hl hs
  · -- ifCond
    split at h
    rotate_left
    · cases h
    obtain ⟨y, ys, rfl, hy, hs1⟩ := g_ca hs
    replace hs := hs1
    obtain ⟨w, rfl, hy⟩ := hy
    exact g_br h hk hB rfl rfl hy (w := 0) (by show (0 : Int32).toInt = 0; rfl) hl hs
  · -- if_icmp
    split at h
    rotate_left
    · cases h
    obtain ⟨y, ys, rfl, hy, hs1⟩ := g_ca hs
    replace hs := hs1
    obtain ⟨x, xs, rfl, hx, hs1⟩ := g_ca hs
    replace hs := hs1
    obtain ⟨w, rfl, hy⟩ := hy
    obtain ⟨z, rfl, hx⟩ := hx
    exact g_br h hk hB rfl rfl hx hy hl hs
  · -- goto
    exact g_to rfl h hk hB hl hs
  · -- tableswitch
    rename_i d lo hi offs
    split at h
    rotate_left
    · cases h
    split at h
    rotate_left
    · cases h
    rename_i hsz
    obtain ⟨y, ys, rfl, hy, hs1⟩ := g_ca hs
    replace hs := hs1
    obtain ⟨w, rfl, hy⟩ := hy
    obtain ⟨p1, p2, e1, e2, rfl⟩ := g_cat2 h
    obtain ⟨p3, p4, e3, e4, rfl⟩ := g_cat2 e2
    simp only [q_pure]
    by_cases h1 : w.toInt < lo
    · rw [if_pos (Or.inl h1)]
      obtain ⟨B1, a1, a2⟩ := g_asm (c := .lt) (y := (false, none, lo)) hB hy (w := lo) rfl (g_o32 w) (Or.inl rfl) h1
      exact g_PRr (g_PRl (g_to a1 e3 hk a2 hl hs))
    · by_cases h2 : hi < w.toInt
      · rw [if_pos (Or.inr h2)]
        obtain ⟨B1, a1, a2⟩ := g_asm (c := .gt) (y := (false, none, hi)) hB hy (w := hi) rfl (g_o32 w) (Or.inl rfl) h2
        exact g_PRr (g_PRr (g_to a1 e4 hk a2 hl hs))
      · rw [if_neg (by omega)]
        have hlt : (w.toInt - lo).toNat < offs.toList.length := by
          rw [Array.length_toList]
          omega
        have hget : offs[(w.toInt - lo).toNat]? = some (offs.toList[(w.toInt - lo).toNat]) := by
          rw [← Array.getElem?_toList, List.getElem?_eq_getElem hlt]
        rw [hget]
        exact g_PRl (g_tab hk hB rfl hy hl hs offs.toList lo p1 e1 _ _ (List.getElem?_eq_getElem hlt) (by omega))
  · -- lookupswitch
    split at h
    rotate_left
    · cases h
    split at h
    rotate_left
    · cases h
    rename_i hc
    obtain ⟨y, ys, rfl, hy, hs1⟩ := g_ca hs
    replace hs := hs1
    obtain ⟨w, rfl, hy⟩ := hy
    simp only [q_pure]
    rw [if_pos hc]
    exact g_lkp hk rfl hy hl hs _ _ B ps rfl hB h
  · cases h
end
section
def g_C (b : Nat) (v : List Int) (x : a_C) (y : q_E) : Prop := match x with
  | .inl (t, n, .inl q) => ∃ f : Nat → Int32, y = .inl (t, n, .inl f) ∧ ∀ j, j < n → q.1 ≤ (f j).toInt ∧ (f j).toInt ≤ q.2
  | .inl (t, n, .inr (.inl vs)) => ∃ f : Nat → Int32, y = .inl (t, n, .inl f) ∧ vs.length = n ∧ ∀ (j : Nat) (x : a_N), vs[j]? = some x → x.1 = false ∧ g_lin v x.2.1 x.2.2 (f j).toInt
  | .inl (t, n, .inr (.inr (.inl _))) => ∃ f : Nat → Int64, y = .inl (t, n, .inr (.inl f))
  | .inl (t, n, .inr (.inr (.inr rs))) => ∃ f : Nat → Option Nat, y = .inl (t, n, .inr (.inr f)) ∧ rs.length = n ∧ ∀ (j : Nat) (r : Option Nat), rs[j]? = some r → f j = r
  | .inr (ci, vs) => ∃ fs : List Value, y = .inr (ci, fs) ∧ g_s b v vs fs
abbrev g_M (b : Nat) (v : List Int) (ma : List a_C) (m : q_M) : Prop := g_2 (g_C b v) ma m
theorem g_C_ext {b : Nat} {v t : List Int} {x : a_C} {y : q_E} (h : g_C b v x y) : g_C b (v ++ t) x y := by
  match x, h with
  | .inl (_, n, .inl q), h => exact h
  | .inl (_, n, .inr (.inl vs)), h =>
    obtain ⟨f, h1, h2, h3⟩ := h
    exact ⟨f, h1, h2, fun j x hx => ⟨(h3 j x hx).1, g_lin_ext (h3 j x hx).2⟩⟩
  | .inl (_, n, .inr (.inr (.inl _))), h => exact h
  | .inl (_, n, .inr (.inr (.inr rs))), h => exact h
  | .inr (ci, vs), h =>
    obtain ⟨fs, h1, h2⟩ := h
    exact ⟨fs, h1, g_s_ext h2⟩
theorem g_M_ext {b : Nat} {v t : List Int} {ma : List a_C} {m : q_M} (h : g_M b v ma m) : g_M b (v ++ t) ma m := g_2_mono (fun _ _ => g_C_ext) h
theorem g_sz {b : Nat} {v : List Int} {x : a_C} {y : q_E} (h : g_C b v x y) : a_sz x = q_sz y := by
  match x, h with
  | .inl (_, n, .inl q), h => obtain ⟨f, rfl, -⟩ := h; rfl
  | .inl (_, n, .inr (.inl vs)), h => obtain ⟨f, rfl, -⟩ := h; rfl
  | .inl (_, n, .inr (.inr (.inl _))), h => obtain ⟨f, rfl⟩ := h; rfl
  | .inl (_, n, .inr (.inr (.inr rs))), h => obtain ⟨f, rfl, -⟩ := h; rfl
  | .inr (ci, vs), h => obtain ⟨fs, rfl, h2⟩ := h; exact g_2_len h2
theorem g_sl {b : Nat} {v : List Int} : ∀ {ma : List a_C} {m : q_M}, g_M b v ma m → a_sl ma = q_sl m
  | [], [], _ => rfl
  | x :: ma, y :: m, h => by
    have ih := g_sl h.2
    simp only [a_sl, q_sl, List.map_cons, List.sum_cons] at ih ⊢
    rw [ih, g_sz h.1]
  | [], _ :: _, h => h.elim
  | _ :: _, [], h => h.elim
theorem g_ix {j : Int32} {n : Nat} (h1 : 0 ≤ j.toInt) (h2 : j.toInt < n) : q_in j n = true ∧ (j.toNatClampNeg : Int) = j.toInt ∧ j.toNatClampNeg < n ∧ ¬ j < 0 := by
  have e : j.toNatClampNeg = j.toInt.toNat := rfl
  have h3 : ¬ j < 0 := by
    rw [Int32.lt_iff_toInt_lt, Int32.toInt_zero]
    omega
  refine ⟨?_, by omega, by omega, h3⟩
  simp only [q_in, Bool.and_eq_true, Bool.not_eq_true', decide_eq_false_iff_not, decide_eq_true_eq]
  exact ⟨h3, by omega⟩
theorem g_hul {v : List Int} {B : a_B} (hB : g_B v B) : ∀ (vs : List a_N) (j : Nat) (x : a_N) (z : Int32), vs[j]? = some x → x.1 = false → g_lin v x.2.1 x.2.2 z.toInt → (a_hul B vs).1 ≤ z.toInt ∧ z.toInt ≤ (a_hul B vs).2
  | [], j, x, z, h, _, _ => by simp at h
  | [y], j, x, z, h, h1, h2 => by
    match j, h with
    | 0, h =>
      simp at h
      subst h
      exact g_iv hB h2 (by rw [h1]; exact g_o32 z)
    | j + 1, h => simp at h
  | y :: y2 :: vs, 0, x, z, h, h1, h2 => by
    simp at h
    subst h
    have := g_iv hB h2 (by rw [h1]; exact g_o32 z)
    exact ⟨Int.le_trans (a_mn_l _ _) this.1, Int.le_trans this.2 (a_mx_l _ _)⟩
  | y :: y2 :: vs, j + 1, x, z, h, h1, h2 => by
    simp at h
    have := g_hul hB (y2 :: vs) j x z (by simpa using h) h1 h2
    exact ⟨Int.le_trans (a_mn_r _ _) this.1, Int.le_trans this.2 (a_mx_r _ _)⟩
theorem g_rd {b : Nat} {v : List Int} {k : Nat} {B : a_B} (hk : v.length = k) (hB : g_B v B) {t n : Nat} {c : (Int × Int) ⊕ List a_N ⊕ Unit ⊕ List (Option Nat)} {y : q_E} (hC : g_C b v (.inl (t, n, c)) y) {iv : Int × Int} {j : Int32} (hj : iv.1 ≤ j.toInt ∧ j.toInt ≤ iv.2) (h0 : 0 ≤ iv.1) (hn : iv.2 < n) {z : Nat × a_B × a_N} (h : a_rd k B c iv = some z) :
    ∃ f : Nat → Int32, y = .inl (t, n, .inl f) ∧ g_R v z false (f j.toNatClampNeg).toInt := by
  obtain ⟨hq, he, hlt, -⟩ := g_ix (j := j) (n := n) (by omega) (by omega)
  match c, hC, h with
  | .inl q, hC, h =>
    obtain ⟨f, h1, h2⟩ := hC
    refine ⟨f, h1, ?_⟩
    have hh := h2 _ hlt
    simp only [a_rd] at h
    split at h
    · rename_i hq2
      cases h
      exact g_R0 hk hB rfl (by show (f j.toNatClampNeg).toInt = q.1; omega)
    · cases h
      exact g_new hk hB hh.1 hh.2
  | .inr (.inl vs), hC, h =>
    obtain ⟨f, h1, h2, h3⟩ := hC
    refine ⟨f, h1, ?_⟩
    simp only [a_rd] at h
    split at h
    · rename_i hs
      split at h
      · rename_i x hx
        cases h
        have e2 : iv.1.toNat = j.toNatClampNeg := by omega
        rw [e2] at hx
        exact g_R0 hk hB (h3 _ _ hx).1 (h3 _ _ hx).2
      · cases h
    · cases h
      have hl : j.toNatClampNeg < vs.length := by omega
      have hx := List.getElem?_eq_getElem hl
      have hh := g_hul hB vs _ _ (f j.toNatClampNeg) hx (h3 _ _ hx).1 (h3 _ _ hx).2
      exact g_new hk hB hh.1 hh.2
theorem g_upd_u {f : Nat → Int32} {n j : Nat} {w : Int32} {lo hi lo2 hi2 : Int} (h : ∀ i, i < n → lo ≤ (f i).toInt ∧ (f i).toInt ≤ hi) (hw : lo2 ≤ w.toInt ∧ w.toInt ≤ hi2) : ∀ i, i < n → a_mn lo lo2 ≤ (upd f j w i).toInt ∧ (upd f j w i).toInt ≤ a_mx hi hi2 := by
  intro i hi
  unfold upd
  split
  · exact ⟨Int.le_trans (a_mn_r _ _) hw.1, Int.le_trans hw.2 (a_mx_r _ _)⟩
  · exact ⟨Int.le_trans (a_mn_l _ _) (h i hi).1, Int.le_trans (h i hi).2 (a_mx_l _ _)⟩
theorem g_put {b : Nat} {v : List Int} {B : a_B} (hB : g_B v B) {t n : Nat} {c c1 : (Int × Int) ⊕ List a_N ⊕ Unit ⊕ List (Option Nat)} {y : q_E} (hC : g_C b v (.inl (t, n, c)) y) {iv : Int × Int} {j : Int32} (hj : iv.1 ≤ j.toInt ∧ j.toInt ≤ iv.2) (h0 : 0 ≤ iv.1) (hn : iv.2 < n) {x : a_N} {w : Int32} (hx1 : x.1 = false) (hx : g_lin v x.2.1 x.2.2 w.toInt) (h : a_put B c iv x = some c1) :
    ∃ f : Nat → Int32, y = .inl (t, n, .inl f) ∧ g_C b v (.inl (t, n, c1)) (.inl (t, n, .inl (upd f j.toNatClampNeg w))) := by
  obtain ⟨hq, he, hlt, -⟩ := g_ix (j := j) (n := n) (by omega) (by omega)
  have hw := g_iv hB hx (by rw [hx1]; exact g_o32 w)
  match c, hC, h with
  | .inl q, hC, h =>
    obtain ⟨f, h1, h2⟩ := hC
    refine ⟨f, h1, ?_⟩
    cases h
    exact ⟨_, rfl, g_upd_u h2 hw⟩
  | .inr (.inl vs), hC, h =>
    obtain ⟨f, h1, h2, h3⟩ := hC
    refine ⟨f, h1, ?_⟩
    simp only [a_put] at h
    split at h
    · rename_i hs
      cases h
      have e2 : iv.1.toNat = j.toNatClampNeg := by omega
      refine ⟨_, rfl, by rw [List.length_set]; exact h2, fun i y hy => ?_⟩
      rw [e2] at hy
      unfold upd
      by_cases hi : i = j.toNatClampNeg
      · subst hi
        rw [List.getElem?_set_self (by omega)] at hy
        cases hy
        rw [if_pos rfl]
        exact ⟨hx1, hx⟩
      · rw [List.getElem?_set_ne (fun q => hi q.symm)] at hy
        rw [if_neg hi]
        exact h3 i y hy
    · cases h
      refine ⟨_, rfl, g_upd_u (fun i hi => ?_) hw⟩
      have hl : i < vs.length := by omega
      have hx := List.getElem?_eq_getElem hl
      exact g_hul hB vs _ _ (f i) hx (h3 _ _ hx).1 (h3 _ _ hx).2
def g_QR (b : Nat) (v : List Int) (ps : List a_Q) (res : Option (List Value × q_M)) : Prop := ∃ p ∈ ps, ∃ (t : List Int) (st1 : List Value) (m1 : q_M), res = some (st1, m1) ∧ (v ++ t).length = p.1 ∧ g_B (v ++ t) p.2.1 ∧ g_s b (v ++ t) p.2.2.1 st1 ∧ g_M b (v ++ t) p.2.2.2 m1
theorem g_Q0 {b : Nat} {v : List Int} {k : Nat} {B : a_B} {sa : List a_V} {ma : List a_C} {ps : List a_Q} {st : List Value} {m : q_M} {res : Option (List Value × q_M)} (hm : (k, B, sa, ma) ∈ ps) (hr : res = some (st, m)) (hk : v.length = k) (hB : g_B v B) (hs : g_s b v sa st) (hM : g_M b v ma m) : g_QR b v ps res :=
  ⟨_, hm, [], st, m, hr, by simpa using hk, by simpa using hB, by simpa using hs, by simpa using hM⟩
theorem g_Q1 {b : Nat} {v : List Int} {z : Nat × a_B × a_N} {lg : Bool} {w : Int} (hR : g_R v z lg w) {y : Value} (hy : match lg with | false => ∃ c : Int32, y = .int c ∧ c.toInt = w | true => ∃ c : Int64, y = .long c ∧ c.toInt = w) {sa : List a_V} {ma : List a_C} {st : List Value} {m : q_M} {res : Option (List Value × q_M)} (hr : res = some (y :: st, m)) (hs : g_s b v sa st) (hM : g_M b v ma m) : g_QR b v [(z.1, z.2.1, .inl z.2.2 :: sa, ma)] res := by
  obtain ⟨t, h1, h2, h3, h4⟩ := hR
  refine ⟨_, List.mem_singleton.mpr rfl, t, _, m, hr, h1, h2, ⟨?_, g_s_ext hs⟩, g_M_ext hM⟩
  obtain ⟨k1, B1, lg1, o, c⟩ := z
  simp only at h3 h4
  subst h3
  cases lg1 with
  | false =>
    obtain ⟨c1, rfl, rfl⟩ := hy
    exact ⟨c1, rfl, h4⟩
  | true =>
    obtain ⟨c1, rfl, rfl⟩ := hy
    exact ⟨c1, rfl, h4⟩
theorem g_fit {b : Nat} {v : List Int} {ty : FieldType} {x : a_V} {y : Value} (h : a_fit ty x = true) (hv : g_v b v x y) : narrow ty y = y ∧ fits ty y = true := by
  unfold a_fit at h
  split at h
  · obtain ⟨z, rfl, -⟩ := hv; exact ⟨rfl, rfl⟩
  · obtain ⟨z, rfl, -⟩ := hv; exact ⟨rfl, rfl⟩
  · rename_i o
    cases o with
    | none => have hv : y = .null := hv; subst hv; exact ⟨rfl, rfl⟩
    | some a => have hv : y = .ref a := hv; subst hv; exact ⟨rfl, rfl⟩
  · rename_i o
    cases o with
    | none => have hv : y = .null := hv; subst hv; exact ⟨rfl, rfl⟩
    | some a => have hv : y = .ref a := hv; subst hv; exact ⟨rfl, rfl⟩
  · cases h
theorem g_refs {b : Nat} {v : List Int} {k : Nat} {B : a_B} {x : a_N} {z : Int32} {sa : List a_V} {ma : List a_C} {st : List Value} {m : q_M} (hk : v.length = k) (hB : g_B v B) (hx1 : x.1 = false) (hx : g_lin v x.2.1 x.2.2 z.toInt) (hs : g_s b v sa st) (hM : g_M b v ma m) :
    ∀ (rs : List (Option Nat)) (j : Int) (n : Nat) (o : Option Nat), rs[n]? = some o → z.toInt = j + n → g_QR b v (a_ref k B x sa ma j rs) (some (va_rf o :: st, m))
  | [], j, n, o, hn, hz => by simp at hn
  | r :: rs, j, 0, o, hn, hz => by
    simp at hn
    subst hn
    unfold a_ref
    obtain ⟨B1, h1, h2⟩ := g_asm (c := .eq) (y := (false, none, j)) hB hx (w := j) rfl (by rw [hx1]; exact g_o32 z) (Or.inl rfl) (by show z.toInt = j; omega)
    rw [h1]
    refine g_Q0 (List.mem_append_left _ (List.mem_singleton.mpr rfl)) rfl hk h2 ⟨?_, hs⟩ hM
    cases r <;> rfl
  | r :: rs, j, n + 1, o, hn, hz => by
    simp at hn
    unfold a_ref
    obtain ⟨p, hp, h⟩ := g_refs hk hB hx1 hx hs hM rs (j + 1) n o hn (by omega)
    exact ⟨p, List.mem_append_right _ hp, h⟩
theorem g_ac {b : Nat} {v : List Int} : ∀ {sa : List a_V} {st : List Value}, g_s b v sa st → a_ac sa = q_cats st
  | [], [], _ => rfl
  | x :: sa, y :: st, h => by
    have ih := g_ac h.2
    simp only [a_ac, q_cats, List.map_cons, List.sum_cons] at ih ⊢
    rw [ih, g_cat h.1]
  | [], _ :: _, h => h.elim
  | _ :: _, [], h => h.elim
theorem g_cpyu {f g : Nat → Int32} {n0 n1 sp dp w : Nat} {a1 a2 b1 b2 : Int} (hf : ∀ j, j < n0 → a1 ≤ (f j).toInt ∧ (f j).toInt ≤ a2) (hg : ∀ j, j < n1 → b1 ≤ (g j).toInt ∧ (g j).toInt ≤ b2) (hs : sp + w ≤ n0) : ∀ j, j < n1 → a_mn a1 b1 ≤ (va_cpy f g sp dp w j).toInt ∧ (va_cpy f g sp dp w j).toInt ≤ a_mx a2 b2 := by
  intro j hj
  unfold va_cpy
  split
  · have := hf (sp + (j - dp)) (by omega)
    exact ⟨Int.le_trans (a_mn_l _ _) this.1, Int.le_trans this.2 (a_mx_l _ _)⟩
  · exact ⟨Int.le_trans (a_mn_r _ _) (hg j hj).1, Int.le_trans (hg j hj).2 (a_mx_r _ _)⟩
theorem g_bool (x : Int32) : 0 ≤ (vp_nar .boolean x).toInt ∧ (vp_nar .boolean x).toInt ≤ 1 := by
  have h := g_and_r (x := x) (y := 1) (by decide)
  have e : vp_nar .boolean x = x &&& 1 := rfl
  rw [e]
  have e1 : (1 : Int32).toInt = 1 := by decide
  omega
theorem g_len {n : Nat} (h : n < 2147483648) : (Int32.ofNat n).toInt = (n : Int) := nI_toInt (n := n) (by omega)
end
section
theorem g_ain {v : List Int} {B : a_B} (hB : g_B v B) {x : Option Nat × Int} {j : Int32} {n : Nat} (hx : g_lin v x.1 x.2 j.toInt) (h : a_in B (false, x) n = true) : ((a_iv B (false, x)).1 ≤ j.toInt ∧ j.toInt ≤ (a_iv B (false, x)).2) ∧ 0 ≤ (a_iv B (false, x)).1 ∧ (a_iv B (false, x)).2 < n := by
  have hj := g_iv hB (x := (false, x)) hx (g_o32 j)
  simp only [a_in, decide_eq_true_eq] at h
  exact ⟨hj, h.1, h.2⟩
theorem g_mem {G : q_G} {b : Nat} {v : List Int} {k : Nat} {B : a_B} {fr lo : Nat} {i : Instr} {sa : List a_V} {ma : List a_C} {ps : List a_Q} {st : List Value} {m : q_M} (h : a_mem G k B fr lo i sa ma = some ps) (hk : v.length = k) (hB : g_B v B) (hs : g_s b v sa st) (hM : g_M b v ma m) : g_QR b v ps (q_mem G fr lo i st m) := by
  unfold a_mem at h
  split at h
  · -- getfield
    split at h
    rotate_left
    · cases h
    split at h
    rotate_left
    · cases h
    rename_i a r _ ci fs hm
    split at h
    rotate_left
    · cases h
    rename_i hci
    split at h
    rotate_left
    · cases h
    rename_i x hx
    cases h
    obtain ⟨y, ys, rfl, hy, hs1⟩ := g_ca hs
    replace hs := hs1
    have hy : y = .ref a := hy
    subst hy
    obtain ⟨c, hc1, hc2⟩ := g_2_get hM hm
    obtain ⟨fs2, rfl, hf⟩ := hc2
    obtain ⟨z, hz1, hz2⟩ := g_2_get hf hx
    exact g_Q0 (st := z :: ys) (List.mem_singleton.mpr rfl) (by simp only [q_mem, hc1, if_pos hci, hz1]) hk hB ⟨hz2, hs⟩ hM
  · -- putfield
    split at h
    rotate_left
    · cases h
    split at h
    rotate_left
    · cases h
    rename_i x a r _ ci fs hm
    split at h
    rotate_left
    · cases h
    rename_i hc
    obtain ⟨hci, hlen, hfit⟩ := hc
    cases h
    obtain ⟨w, ws, rfl, hw, hs1⟩ := g_ca hs
    replace hs := hs1
    obtain ⟨y, ys, rfl, hy, hs1⟩ := g_ca hs
    replace hs := hs1
    have hy : y = .ref a := hy
    subst hy
    obtain ⟨c, hc1, hc2⟩ := g_2_get hM hm
    obtain ⟨fs2, rfl, hf⟩ := hc2
    obtain ⟨n1, n2⟩ := g_fit hfit hw
    exact g_Q0 (List.mem_singleton.mpr rfl) (by simp only [q_mem, hc1]; rw [if_pos ⟨hci, by rw [← g_2_len hf]; exact hlen, n1, n2⟩]) hk hB hs (g_2_set hM ⟨_, rfl, g_2_set hf hw⟩)
  · -- iaload
    split at h
    rotate_left
    · cases h
    split at h
    rotate_left
    · cases h
    rename_i x a r _ t n c hm
    split at h
    rotate_left
    · cases h
    rename_i hc
    obtain ⟨rfl, hin⟩ := hc
    split at h
    rotate_left
    · cases h
    rename_i z hz
    cases h
    obtain ⟨w, ws, rfl, hw, hs1⟩ := g_ca hs
    replace hs := hs1
    obtain ⟨y, ys, rfl, hy, hs1⟩ := g_ca hs
    replace hs := hs1
    have hy : y = .ref a := hy
    subst hy
    obtain ⟨j, rfl, hj⟩ := hw
    obtain ⟨h1, h2, h3⟩ := g_ain hB hj hin
    dsimp only at h1 h2 h3
    obtain ⟨cc, hc1, hc2⟩ := g_2_get hM hm
    obtain ⟨f, rfl, hR⟩ := g_rd hk hB hc2 h1 h2 h3 hz
    have hq := (g_ix (j := j) (n := n) (by omega) (by omega)).1
    exact g_Q1 (lg := false) hR ⟨_, rfl, rfl⟩ (by simp only [q_mem, hc1]; rw [if_pos ⟨trivial, hq⟩]) hs hM
  · -- baload
    split at h
    rotate_left
    · cases h
    split at h
    rotate_left
    · cases h
    rename_i x a r _ t n c hm
    split at h
    rotate_left
    · cases h
    rename_i hc
    obtain ⟨ht, hin⟩ := hc
    split at h
    rotate_left
    · cases h
    rename_i z hz
    cases h
    obtain ⟨w, ws, rfl, hw, hs1⟩ := g_ca hs
    replace hs := hs1
    obtain ⟨y, ys, rfl, hy, hs1⟩ := g_ca hs
    replace hs := hs1
    have hy : y = .ref a := hy
    subst hy
    obtain ⟨j, rfl, hj⟩ := hw
    obtain ⟨h1, h2, h3⟩ := g_ain hB hj hin
    dsimp only at h1 h2 h3
    obtain ⟨cc, hc1, hc2⟩ := g_2_get hM hm
    obtain ⟨f, rfl, hR⟩ := g_rd hk hB hc2 h1 h2 h3 hz
    have hq := (g_ix (j := j) (n := n) (by omega) (by omega)).1
    exact g_Q1 (lg := false) hR ⟨_, rfl, rfl⟩ (by simp only [q_mem, hc1]; rw [if_pos ⟨ht, hq⟩]) hs hM
  · -- laload
    split at h
    rotate_left
    · cases h
    split at h
    rotate_left
    · cases h
    rename_i x a r _ t n _ hm
    split at h
    rotate_left
    · cases h
    rename_i hc
    obtain ⟨rfl, hin⟩ := hc
    cases h
    obtain ⟨w, ws, rfl, hw, hs1⟩ := g_ca hs
    replace hs := hs1
    obtain ⟨y, ys, rfl, hy, hs1⟩ := g_ca hs
    replace hs := hs1
    have hy : y = .ref a := hy
    subst hy
    obtain ⟨j, rfl, hj⟩ := hw
    obtain ⟨h1, h2, h3⟩ := g_ain hB hj hin
    dsimp only at h1 h2 h3
    obtain ⟨cc, hc1, hc2⟩ := g_2_get hM hm
    obtain ⟨f, rfl⟩ := hc2
    have hq := (g_ix (j := j) (n := n) (by omega) (by omega)).1
    exact g_Q1 (lg := true) (g_top hk hB (g_in64 (f j.toNatClampNeg))) ⟨_, rfl, rfl⟩ (by simp only [q_mem, hc1]; rw [if_pos ⟨trivial, hq⟩]) hs hM
  · -- aaload
    split at h
    rotate_left
    · cases h
    split at h
    rotate_left
    · cases h
    rename_i x a r _ t n rs hm
    split at h
    rotate_left
    · cases h
    rename_i hc
    obtain ⟨ht, ht2, hin, hrl⟩ := hc
    cases h
    obtain ⟨w, ws, rfl, hw, hs1⟩ := g_ca hs
    replace hs := hs1
    obtain ⟨y, ys, rfl, hy, hs1⟩ := g_ca hs
    replace hs := hs1
    have hy : y = .ref a := hy
    subst hy
    obtain ⟨j, rfl, hj⟩ := hw
    obtain ⟨h1, h2, h3⟩ := g_ain hB hj hin
    dsimp only at h1 h2 h3
    obtain ⟨cc, hc1, hc2⟩ := g_2_get hM hm
    obtain ⟨f, rfl, hfl, hf⟩ := hc2
    obtain ⟨hq, he, hlt, -⟩ := g_ix (j := j) (n := n) (by omega) (by omega)
    have hget := List.getElem?_eq_getElem (l := rs) (i := j.toNatClampNeg) (by omega)
    have hfj := hf _ _ hget
    have K := g_refs (b := b) hk hB (x := (false, x)) rfl hj hs hM rs 0 j.toNatClampNeg _ hget (by omega)
    simp only [q_mem, hc1]
    rw [if_pos ⟨ht, hq, ht2⟩, hfj]
    exact K
  · -- iastore
    split at h
    rotate_left
    · cases h
    split at h
    rotate_left
    · cases h
    rename_i x0 x a r _ t n c hm
    split at h
    rotate_left
    · cases h
    rename_i hc
    obtain ⟨rfl, hin⟩ := hc
    split at h
    rotate_left
    · cases h
    rename_i c1 hc1'
    cases h
    obtain ⟨u, us, rfl, hu, hs1⟩ := g_ca hs
    replace hs := hs1
    obtain ⟨w, ws, rfl, hw, hs1⟩ := g_ca hs
    replace hs := hs1
    obtain ⟨y, ys, rfl, hy, hs1⟩ := g_ca hs
    replace hs := hs1
    have hy : y = .ref a := hy
    subst hy
    obtain ⟨j, rfl, hj⟩ := hw
    obtain ⟨e0, rfl, he0⟩ := hu
    obtain ⟨h1, h2, h3⟩ := g_ain hB hj hin
    dsimp only at h1 h2 h3
    obtain ⟨cc, hc1, hc2⟩ := g_2_get hM hm
    obtain ⟨f, rfl, hC⟩ := g_put hB hc2 h1 h2 h3 (x := (false, x0)) rfl he0 hc1'
    have hq := (g_ix (j := j) (n := n) (by omega) (by omega)).1
    exact g_Q0 (List.mem_singleton.mpr rfl) (by simp only [q_mem, hc1]; rw [if_pos ⟨trivial, hq⟩]) hk hB hs (g_2_set hM hC)
  · -- bastore
    split at h
    rotate_left
    · cases h
    split at h
    rotate_left
    · cases h
    rename_i x0 x a r _ t n q0 hm
    split at h
    rotate_left
    · cases h
    rename_i hin
    obtain ⟨u, us, rfl, hu, hs1⟩ := g_ca hs
    replace hs := hs1
    obtain ⟨w, ws, rfl, hw, hs1⟩ := g_ca hs
    replace hs := hs1
    obtain ⟨y, ys, rfl, hy, hs1⟩ := g_ca hs
    replace hs := hs1
    have hy : y = .ref a := hy
    subst hy
    obtain ⟨j, rfl, hj⟩ := hw
    obtain ⟨e0, rfl, he0⟩ := hu
    obtain ⟨h1, h2, h3⟩ := g_ain hB hj hin
    dsimp only at h1 h2 h3
    obtain ⟨cc, hc1, hc2⟩ := g_2_get hM hm
    obtain ⟨f, rfl, hf⟩ := hc2
    have hq := (g_ix (j := j) (n := n) (by omega) (by omega)).1
    split at h
    · rename_i ht
      subst ht
      cases h
      exact g_Q0 (m := m.set a (.inl (2, n, .inl (upd f j.toNatClampNeg (vp_nar .byte e0))))) (List.mem_singleton.mpr rfl) (by simp only [q_mem, hc1]; rw [if_pos ⟨trivial, hq⟩]) hk hB hs (g_2_set hM ⟨_, rfl, g_upd_u hf (g_b8 e0)⟩)
    · split at h
      rotate_left
      · cases h
      rename_i ht
      subst ht
      cases h
      exact g_Q0 (m := m.set a (.inl (3, n, .inl (upd f j.toNatClampNeg (vp_nar .boolean e0))))) (List.mem_singleton.mpr rfl) (by simp only [q_mem, hc1]; rw [if_neg (fun z => absurd z.1 (by decide)), if_pos ⟨trivial, hq⟩]) hk hB hs (g_2_set hM ⟨_, rfl, g_upd_u hf (g_bool e0)⟩)
  · -- lastore
    split at h
    rotate_left
    · cases h
    split at h
    rotate_left
    · cases h
    rename_i x0 x a r _ t n u0 hm
    split at h
    rotate_left
    · cases h
    rename_i hc
    obtain ⟨rfl, hin⟩ := hc
    cases h
    obtain ⟨u, us, rfl, hu, hs1⟩ := g_ca hs
    replace hs := hs1
    obtain ⟨w, ws, rfl, hw, hs1⟩ := g_ca hs
    replace hs := hs1
    obtain ⟨y, ys, rfl, hy, hs1⟩ := g_ca hs
    replace hs := hs1
    have hy : y = .ref a := hy
    subst hy
    obtain ⟨j, rfl, hj⟩ := hw
    obtain ⟨e0, rfl, he0⟩ := hu
    obtain ⟨h1, h2, h3⟩ := g_ain hB hj hin
    dsimp only at h1 h2 h3
    obtain ⟨cc, hc1, hc2⟩ := g_2_get hM hm
    obtain ⟨f, rfl⟩ := hc2
    have hq := (g_ix (j := j) (n := n) (by omega) (by omega)).1
    have hM2 := g_2_set (i := a) hM (a := .inl (1, n, .inr (.inr (.inl u0)))) (b := .inl (1, n, .inr (.inl (vp_updL f j.toNatClampNeg e0)))) ⟨_, rfl⟩
    have e9 : ma.set a (.inl (1, n, .inr (.inr (.inl u0)))) = ma := by
      apply List.ext_getElem?
      intro z
      rw [List.getElem?_set]
      split
      · rename_i hz
        subst hz
        split
        · exact hm.symm
        · rename_i hl
          exact absurd (List.getElem?_eq_some_iff.mp hm).1 hl
      · rfl
    rw [e9] at hM2
    exact g_Q0 (List.mem_singleton.mpr rfl) (by simp only [q_mem, hc1]; rw [if_pos ⟨trivial, hq⟩]) hk hB hs hM2
  · -- aastore
    split at h
    rotate_left
    · cases h
    split at h
    rotate_left
    · cases h
    rename_i x0 x a r _ _ t n rs ci _ hm hmv
    split at h
    rotate_left
    · cases h
    rename_i hc
    obtain ⟨ht, hin, hsing, hty, hty2⟩ := hc
    cases h
    obtain ⟨u, us, rfl, hu, hs1⟩ := g_ca hs
    replace hs := hs1
    obtain ⟨w, ws, rfl, hw, hs1⟩ := g_ca hs
    replace hs := hs1
    obtain ⟨y, ys, rfl, hy, hs1⟩ := g_ca hs
    replace hs := hs1
    have hy : y = .ref a := hy
    subst hy
    have hu : u = .ref x0 := hu
    subst hu
    obtain ⟨j, rfl, hj⟩ := hw
    obtain ⟨h1, h2, h3⟩ := g_ain hB hj hin
    dsimp only at h1 h2 h3
    obtain ⟨cc, hc1, hc2⟩ := g_2_get hM hm
    obtain ⟨f, rfl, hfl, hf⟩ := hc2
    obtain ⟨cc2, hc3, hc4⟩ := g_2_get hM hmv
    obtain ⟨fs2, rfl, -⟩ := hc4
    obtain ⟨hq, he, hlt, -⟩ := g_ix (j := j) (n := n) (by omega) (by omega)
    refine g_Q0 (List.mem_singleton.mpr rfl) (by simp only [q_mem, hc1, hc3]; rw [if_pos ⟨ht, hq, hty, hty2⟩]) hk hB hs (g_2_set hM ⟨_, rfl, by rw [List.length_set]; exact hfl, fun i y hy => ?_⟩)
    have e2 : (a_iv B (false, x)).1.toNat = j.toNatClampNeg := by omega
    rw [e2] at hy
    unfold va_up
    by_cases hi : i = j.toNatClampNeg
    · subst hi
      rw [List.getElem?_set_self (by omega)] at hy
      cases hy
      rw [if_pos rfl]
    · rw [List.getElem?_set_ne (fun q => hi q.symm)] at hy
      rw [if_neg hi]
      exact hf i y hy
  · -- arraylength
    split at h
    rotate_left
    · cases h
    split at h
    rotate_left
    · cases h
    rename_i a r _ t n c hm
    split at h
    rotate_left
    · cases h
    rename_i hc
    cases h
    obtain ⟨y, ys, rfl, hy, hs1⟩ := g_ca hs
    replace hs := hs1
    have hy : y = .ref a := hy
    subst hy
    obtain ⟨cc, hc1, hc2⟩ := g_2_get hM hm
    have hcell : ∃ z, cc = .inl (t, n, z) := by
      match c, hc2 with
      | .inl q, hc2 => obtain ⟨f, rfl, -⟩ := hc2; exact ⟨_, rfl⟩
      | .inr (.inl vs), hc2 => obtain ⟨f, rfl, -⟩ := hc2; exact ⟨_, rfl⟩
      | .inr (.inr (.inl _)), hc2 => obtain ⟨f, rfl⟩ := hc2; exact ⟨_, rfl⟩
      | .inr (.inr (.inr rs)), hc2 => obtain ⟨f, rfl, -⟩ := hc2; exact ⟨_, rfl⟩
    obtain ⟨z, rfl⟩ := hcell
    exact g_Q0 (st := .int (Int32.ofNat n) :: ys) (List.mem_singleton.mpr rfl) (by simp only [q_mem, hc1]; rw [if_pos hc.1]) hk hB ⟨⟨_, rfl, g_len hc.2⟩, hs⟩ hM
  · -- Object's own start, a row copied
    split at h
    · rename_i hn
      split at h
      rotate_left
      · cases h
      split at h
      rotate_left
      · cases h
      rename_i hc
      cases h
      obtain ⟨y, ys, rfl, hy, hs1⟩ := g_ca hs
      replace hs := hs1
      have hy : y = .ref _ := hy
      subst hy
      exact g_Q0 (List.mem_singleton.mpr rfl) (by simp only [q_mem]; rw [if_pos hn, if_pos ⟨hc.1, by rw [← g_ac hs]; exact hc.2⟩]) hk hB hs hM
    · rename_i hn0
      split at h
      rotate_left
      · cases h
      rename_i hn
      split at h
      rotate_left
      · cases h
      rename_i wv dv d sv j r
      split at h
      rotate_left
      · cases h
      rename_i hc
      obtain ⟨y1, s1, rfl, hy1, hs1⟩ := g_ca hs
      replace hs := hs1
      obtain ⟨y2, s2, rfl, hy2, hs1⟩ := g_ca hs
      replace hs := hs1
      obtain ⟨y3, s3, rfl, hy3, hs1⟩ := g_ca hs
      replace hs := hs1
      obtain ⟨y4, s4, rfl, hy4, hs1⟩ := g_ca hs
      replace hs := hs1
      obtain ⟨y5, s5, rfl, hy5, hs1⟩ := g_ca hs
      replace hs := hs1
      have hy3 : y3 = .ref _ := hy3
      subst hy3
      have hy5 : y5 = .ref _ := hy5
      subst hy5
      obtain ⟨w, rfl, hy1⟩ := hy1
      obtain ⟨dp, rfl, hy2⟩ := hy2
      obtain ⟨sp, rfl, hy4⟩ := hy4
      have i1 := g_iv hB (x := (false, _)) hy1 (g_o32 w)
      have i2 := g_iv hB (x := (false, _)) hy2 (g_o32 dp)
      have i4 := g_iv hB (x := (false, _)) hy4 (g_o32 sp)
      unfold a_cpy at h
      split at h
      · rename_i t0 n0 q0 t1 n1 p0 hm0 hm1
        split at h
        rotate_left
        · cases h
        rename_i hd
        obtain ⟨rfl, rfl, d1, d2, d3, d4, d5⟩ := hd
        cases h
        obtain ⟨c0, hc0, hg0⟩ := g_2_get hM hm0
        obtain ⟨c1, hc1, hg1⟩ := g_2_get hM hm1
        obtain ⟨f, rfl, hf⟩ := hg0
        obtain ⟨g, rfl, hg⟩ := hg1
        have n1' : ¬ w < 0 := by rw [Int32.lt_iff_toInt_lt, Int32.toInt_zero]; omega
        have n2' : ¬ dp < 0 := by rw [Int32.lt_iff_toInt_lt, Int32.toInt_zero]; omega
        have n4' : ¬ sp < 0 := by rw [Int32.lt_iff_toInt_lt, Int32.toInt_zero]; omega
        have e1 : w.toNatClampNeg = w.toInt.toNat := rfl
        have e2 : dp.toNatClampNeg = dp.toInt.toNat := rfl
        have e4 : sp.toNatClampNeg = sp.toInt.toNat := rfl
        exact g_Q0 (List.mem_singleton.mpr rfl) (by
          simp only [q_mem]
          rw [if_neg hn0, if_pos hn]
          simp only [q_copy]
          rw [if_pos ⟨hc.1, by rw [← g_ac hs]; exact hc.2, n4', n2', n1'⟩]
          simp only [q_cpy, hc0, hc1]
          rw [if_pos ⟨trivial, trivial, by omega, by omega⟩]) hk hB hs (g_2_set hM ⟨_, rfl, g_cpyu hf hg (by omega)⟩)
      · rename_i t0 n0 u0 t1 n1 u1 hm0 hm1
        split at h
        rotate_left
        · cases h
        rename_i hd
        obtain ⟨rfl, rfl, d1, d2, d3, d4, d5⟩ := hd
        cases h
        obtain ⟨c0, hc0, hg0⟩ := g_2_get hM hm0
        obtain ⟨c1, hc1, hg1⟩ := g_2_get hM hm1
        obtain ⟨f, rfl⟩ := hg0
        obtain ⟨g, rfl⟩ := hg1
        have n1' : ¬ w < 0 := by rw [Int32.lt_iff_toInt_lt, Int32.toInt_zero]; omega
        have n2' : ¬ dp < 0 := by rw [Int32.lt_iff_toInt_lt, Int32.toInt_zero]; omega
        have n4' : ¬ sp < 0 := by rw [Int32.lt_iff_toInt_lt, Int32.toInt_zero]; omega
        have e1 : w.toNatClampNeg = w.toInt.toNat := rfl
        have e2 : dp.toNatClampNeg = dp.toInt.toNat := rfl
        have e4 : sp.toNatClampNeg = sp.toInt.toNat := rfl
        exact g_Q0 (List.mem_singleton.mpr rfl) (by
          simp only [q_mem]
          rw [if_neg hn0, if_pos hn]
          simp only [q_copy]
          rw [if_pos ⟨hc.1, by rw [← g_ac hs]; exact hc.2, n4', n2', n1'⟩]
          simp only [q_cpy, hc0, hc1]
          rw [if_pos ⟨trivial, trivial, by omega, by omega⟩]) hk hB hs (g_2_set hM ⟨_, rfl⟩)
      · cases h
  · cases h
end
section
theorem g_dft {b : Nat} {v : List Int} {ty : FieldType} {x : a_V} (h : a_dft ty = some x) : g_v b v x (defaultValue ty) := by
  cases ty <;> simp only [a_dft] at h <;> first
    | (cases h; done)
    | (cases h; exact ⟨0, rfl, rfl⟩)
    | (cases h; rfl)
theorem g_dfs {b : Nat} {v : List Int} {Y : Nat → FieldType} : ∀ {n : Nat} {l : List a_V}, a_dfs Y n = some l → g_s b v l ((List.range n).map (fun k => defaultValue (Y k)))
  | 0, l, h => by
    cases h
    trivial
  | n + 1, l, h => by
    unfold a_dfs at h
    split at h
    · rename_i l1 x h1 h2
      cases h
      rw [List.range_succ, List.map_append]
      exact g_2_app (g_dfs h1) ⟨g_dft h2, trivial⟩
    · cases h
theorem g_cel {G : q_G} {b : Nat} {v : List Int} {B : a_B} {i : Instr} {sa sa1 : List a_V} {ma : List a_C} {x : a_C} {st : List Value} {m : q_M} (h : a_cel G B i sa ma = some (sa1, x)) (hB : g_B v B) (hs : g_s b v sa st) (hM : g_M b v ma m) : ∃ st1 y, q_new G i st m = some (st1, y) ∧ g_s b v sa1 st1 ∧ g_C b v x y := by
  have hlen := g_2_len hM
  unfold a_cel at h
  split at h
  · split at h
    rotate_left
    · cases h
    rename_i N hc
    split at h
    rotate_left
    · cases h
    rename_i l hl
    cases h
    exact ⟨.ref m.length :: st, _, by simp only [q_new, hc], ⟨by rw [hlen]; rfl, hs⟩, _, rfl, g_dfs hl⟩
  · split at h
    rotate_left
    · cases h
    split at h
    rotate_left
    · cases h
    rename_i a w0 r hc
    obtain ⟨c1, c2, c3, c4⟩ := hc
    cases h
    obtain ⟨y, ys, rfl, hy, hs1⟩ := g_ca hs
    replace hs := hs1
    obtain ⟨w, rfl, hy⟩ := hy
    have hi := g_iv hB (x := (false, _)) hy (g_o32 w)
    have n1 : ¬ w < 0 := by rw [Int32.lt_iff_toInt_lt, Int32.toInt_zero]; omega
    have e1 : w.toNatClampNeg = w.toInt.toNat := rfl
    have e2 : w.toNatClampNeg = (a_iv B (false, w0)).1.toNat := by omega
    refine ⟨.ref m.length :: ys, _, by simp only [q_new]; rw [if_pos ⟨n1, by omega, c4⟩], ⟨by rw [hlen]; rfl, hs⟩, ?_⟩
    rw [e2]
    split
    · exact ⟨_, rfl⟩
    · split
      · refine ⟨_, rfl, by simp, fun j x hx => ?_⟩
        have := List.mem_of_getElem? hx
        rw [List.mem_replicate] at this
        rw [this.2]
        exact ⟨rfl, rfl⟩
      · exact ⟨_, rfl, fun j _ => ⟨by show (0 : Int) ≤ (0 : Int32).toInt; decide, by show (0 : Int32).toInt ≤ 0; decide⟩⟩
  · split at h
    rotate_left
    · cases h
    split at h
    rotate_left
    · cases h
    rename_i t w0 r hc
    obtain ⟨c1, c2, c3⟩ := hc
    cases h
    obtain ⟨y, ys, rfl, hy, hs1⟩ := g_ca hs
    replace hs := hs1
    obtain ⟨w, rfl, hy⟩ := hy
    have hi := g_iv hB (x := (false, _)) hy (g_o32 w)
    have n1 : ¬ w < 0 := by rw [Int32.lt_iff_toInt_lt, Int32.toInt_zero]; omega
    have e1 : w.toNatClampNeg = w.toInt.toNat := rfl
    have e2 : w.toNatClampNeg = (a_iv B (false, w0)).1.toNat := by omega
    refine ⟨.ref m.length :: ys, _, by simp only [q_new]; rw [if_pos ⟨n1, by omega⟩], ⟨by rw [hlen]; rfl, hs⟩, ?_⟩
    rw [e2]
    refine ⟨_, rfl, by simp, fun j r hr => ?_⟩
    have := List.mem_of_getElem? hr
    rw [List.mem_replicate] at this
    exact this.2.symm
  · cases h
theorem g_lk {b : Nat} {v : List Int} {i : Instr} {sa sa1 : List a_V} {st : List Value} (h : a_lk i sa = some sa1) (hs : g_s b v sa st) : ∃ st1, q_lk i st = some st1 ∧ g_s b v sa1 st1 := by
  unfold a_lk at h
  split at h
  · cases h
    exact ⟨_, rfl, ⟨_, rfl, rfl⟩, hs⟩
  · cases h
    exact ⟨_, rfl, ⟨_, rfl, rfl⟩, hs⟩
  · cases h
theorem g_rcv {G : q_G} {M : q_MI} {b : Nat} {v : List Int} {as : List a_V} {ma : List a_C} {vs : List Value} {m : q_M} (h : a_rcv G M as ma = true) (hs : g_s b v as vs) (hM : g_M b v ma m) : q_rcv G M vs m = true := by
  unfold a_rcv at h
  unfold q_rcv
  split at h
  · rename_i hkk
    simp only [hkk]
  · rename_i hkk
    simp only [hkk]
    split at h
    rotate_left
    · cases h
    split at h
    rotate_left
    · cases h
    rename_i a r _ ci fs hm
    obtain ⟨y, ys, rfl, hy, hs1⟩ := g_ca hs
    replace hs := hs1
    have hy : y = .ref a := hy
    subst hy
    obtain ⟨c, hc1, hc2⟩ := g_2_get hM hm
    obtain ⟨f, rfl, -⟩ := hc2
    simp only [hc1]
    exact h
  · rename_i hk1 hk0
    split at h
    rotate_left
    · cases h
    rename_i a r
    obtain ⟨y, ys, rfl, hy, hs1⟩ := g_ca hs
    replace hs := hs1
    have hy : y = .ref _ := hy
    subst hy
    split
    · rfl
    · exact absurd (by assumption) hk0
    · rfl
theorem g_call {G : q_G} {M M1 : q_MI} {k : Nat} {b : Nat} {v : List Int} {sa as rest : List a_V} {ma : List a_C} {st : List Value} {m : q_M} (h : a_call G M k sa ma = some (M1, as, rest)) (hs : g_s b v sa st) (hM : g_M b v ma m) : ∃ vs rs, q_call G M k st m = some (M1, vs, rs) ∧ g_s b v as vs ∧ g_s b v rest rs ∧ (q_gM G)[k]? = some M1 := by
  unfold a_call at h
  split at h
  · cases h
  rename_i M2 hM2
  split at h
  rotate_left
  · cases h
  rename_i hc
  cases h
  obtain ⟨c1, c2, c3, c4, c5, c6⟩ := hc
  have ht := g_2_take (q_na M1) hs
  have hd := g_2_drop (q_na M1) hs
  refine ⟨_, _, ?_, g_2_rev ht, hd, hM2⟩
  unfold q_call
  rw [hM2]
  simp only
  rw [if_pos ⟨by rw [← g_2_len hs]; exact c1, by rw [← g_ac hd]; exact c2, c3, c4, by rw [← g_ac ht]; exact c5, g_rcv c6 (g_2_rev ht) hM⟩]
theorem g_lvs {b : Nat} {v : List Int} : ∀ {as : List a_V} {vs : List Value} (i : Nat), g_s b v as vs → g_L b v (a_lvs i as) (lv_args i vs)
  | [], [], _, _ => trivial
  | x :: as, y :: vs, i, h => by
    refine ⟨⟨rfl, h.1⟩, ?_⟩
    rw [g_cat h.1]
    exact g_lvs _ h.2
  | [], _ :: _, _, h => h.elim
  | _ :: _, [], _, h => h.elim
theorem g_ret {b : Nat} {v : List Int} {B : a_B} {M : q_MI} {i : Instr} {sa ra : List a_V} {st : List Value} (h : a_ret B M i sa = some ra) (hB : g_B v B) (hs : g_s b v sa st) : ∃ r, q_retn M i st = some r ∧ g_s b v ra r.toList := by
  unfold a_ret at h
  split at h
  · split at h
    rotate_left
    · cases h
    obtain ⟨y, ys, rfl, hy, hs1⟩ := g_ca hs
    replace hs := hs1
    have := g_na hs
    subst this
    have hy0 := hy
    obtain ⟨w, rfl, hy⟩ := hy
    split at h
    · rename_i hr
      cases h
      exact ⟨some (.int w), by simp only [q_retn, hr]; exact if_pos (show narrow .int (.int w) = .int w from rfl), hy0, trivial⟩
    · rename_i hr
      split at h
      rotate_left
      · cases h
      rename_i hc
      cases h
      have hi := g_iv hB (x := (false, _)) hy (g_o32 w)
      have hw : w = 0 ∨ w = 1 := by
        have : w.toInt = 0 ∨ w.toInt = 1 := by omega
        rcases this with h0 | h0
        · exact Or.inl (Int32.toInt_inj.mp (h0.trans (by decide)))
        · exact Or.inr (Int32.toInt_inj.mp (h0.trans (by decide)))
      refine ⟨some (.int w), ?_, hy0, trivial⟩
      simp only [q_retn, hr]
      rw [if_pos (by rcases hw with rfl | rfl <;> rfl)]
    · cases h
  · split at h
    rotate_left
    · cases h
    split at h
    rotate_left
    · cases h
    rename_i hr
    cases h
    obtain ⟨y, ys, rfl, hy, hs1⟩ := g_ca hs
    replace hs := hs1
    have := g_na hs
    subst this
    have hy0 := hy
    obtain ⟨w, rfl, hy⟩ := hy
    exact ⟨some (.long w), by simp only [q_retn]; rw [if_pos hr], hy0, trivial⟩
  · split at h
    rotate_left
    · cases h
    split at h
    rotate_left
    · cases h
    rename_i hr
    cases h
    have := g_na hs
    subst this
    exact ⟨none, by simp only [q_retn]; rw [if_pos hr], trivial⟩
  · cases h
end
section
theorem q_fuel {G : q_G} : ∀ (n k : Nat) (M : q_MI) (pc : Nat) (l : q_L) (st : List Value) (m : q_M) (r : Option Value × q_M), n ≤ k → q_run G n M pc l st m = some r → q_run G k M pc l st m = some r
  | 0, _, _, _, _, _, _, _, _, h => by simp [q_run] at h
  | n + 1, 0, _, _, _, _, _, _, hk, _ => by omega
  | n + 1, k + 1, M, pc, l, st, m, r, hk, h => by
    have hk : n ≤ k := by omega
    unfold q_run at h ⊢
    split at h
    · cases h
    rename_i I pc0 raw len i pos hf
    try simp only [hf]
    split at h
    · rename_i hg
      try simp only [hg]
      split at h
      rotate_left
      · cases h
      rename_i hp
      try simp only [hp]
      exact q_fuel n k _ _ _ _ _ _ hk h
    · rename_i hg
      try simp only [hg]
      split at h
      rotate_left
      · cases h
      rename_i hp
      try simp only [hp]
      exact q_fuel n k _ _ _ _ _ _ hk h
    · rename_i hg
      try simp only [hg]
      split at h
      rotate_left
      · cases h
      rename_i hp
      try simp only [hp]
      exact q_fuel n k _ _ _ _ _ _ hk h
    · rename_i hg
      try simp only [hg]
      split at h
      · rename_i j hj
        try simp only [hj]
        split at h
        rotate_left
        · cases h
        rename_i hc
        try simp only [hc]
        split at h
        rotate_left
        · cases h
        rename_i hr
        rw [q_fuel n k _ _ _ _ _ _ hk hr]
        exact q_fuel n k _ _ _ _ _ _ hk h
      · rename_i hj
        try simp only [hj]
        exact h
    · rename_i hg0 hg1 hg2 hg3
      split at h
      rotate_left
      · cases h
      rename_i hp
      try simp only [hp]
      exact q_fuel n k _ _ _ _ _ _ hk h
theorem q_lfuel {G : q_G} {b L : Nat} {xs : Nat → Int32} {M : q_MI} : ∀ (n k : Nat) (pc : Nat) (l : q_L) (st : List Value) (m : q_M) (r : Int32 × q_M), n ≤ k → q_lrun G b L xs M n pc l st m = some r → q_lrun G b L xs M k pc l st m = some r
  | 0, _, _, _, _, _, _, _, h => by simp [q_lrun] at h
  | n + 1, 0, _, _, _, _, _, hk, _ => by omega
  | n + 1, k + 1, pc, l, st, m, r, hk, h => by
    have hk : n ≤ k := by omega
    unfold q_lrun at h ⊢
    split at h
    · cases h
    rename_i I pc0 raw len i pos hf
    try simp only [hf]
    split at h
    · rename_i hg
      try simp only [hg]
      split at h
      rotate_left
      · cases h
      rename_i hp
      try simp only [hp]
      exact q_lfuel n k _ _ _ _ _ hk h
    · rename_i hg
      try simp only [hg]
      split at h
      rotate_left
      · cases h
      rename_i hp
      try simp only [hp]
      exact q_lfuel n k _ _ _ _ _ hk h
    · rename_i hg
      try simp only [hg]
      split at h
      rotate_left
      · cases h
      rename_i hp
      try simp only [hp]
      exact q_lfuel n k _ _ _ _ _ hk h
    · rename_i hg
      try simp only [hg]
      split at h
      · rename_i j hj
        try simp only [hj]
        split at h
        rotate_left
        · cases h
        rename_i hc
        try simp only [hc]
        split at h
        rotate_left
        · cases h
        rename_i hr
        rw [q_fuel n k _ _ _ _ _ _ hk hr]
        exact q_lfuel n k _ _ _ _ _ hk h
      · rename_i hj
        try simp only [hj]
        exact h
    · rename_i hg0 hg1 hg2 hg3
      split at h
      rotate_left
      · cases h
      rename_i hp
      try simp only [hp]
      exact q_lfuel n k _ _ _ _ _ hk h
abbrev q_Fr : Type := q_MI × Nat × q_L × List Value
/-- frames (the law's the last): with r given back to the topmost, they come to the law's end as P says -/
def q_Kt (G : q_G) (b L : Nat) (xs : Nat → Int32) (ML : q_MI) (P : Int32 → q_M → Prop) : List q_Fr → Option Value → q_M → Prop
  | [], _, _ => False
  | f :: fs, r, m => match fs with
    | [] => ∃ (n : Nat) (v : Int32) (qF : q_M), q_lrun G b L xs ML n f.2.1 f.2.2.1 (r.toList ++ f.2.2.2) m = some (v, qF) ∧ P v qF
    | f2 :: fs2 => ∃ (n : Nat) (r1 : Option Value) (m1 : q_M), q_run G n f.1 f.2.1 f.2.2.1 (r.toList ++ f.2.2.2) m = some (r1, m1) ∧ q_Kt G b L xs ML P (f2 :: fs2) r1 m1
def q_srt : List q_I → Bool
  | [] => true
  | [_] => true
  | I :: J :: C => Nat.blt I.1 J.1 && q_srt (J :: C)
theorem q_srt_lt : ∀ (C : List q_I) (I : q_I), q_srt (I :: C) = true → ∀ J ∈ C, I.1 < J.1
  | [], I, _, J, hJ => by cases hJ
  | K :: C, I, h, J, hJ => by
    simp only [q_srt, Bool.and_eq_true] at h
    have h1 : I.1 < K.1 := Nat.blt_eq.mp h.1
    rcases List.mem_cons.mp hJ with rfl | hJ
    · exact h1
    · exact Nat.lt_trans h1 (q_srt_lt C K h.2 J hJ)
theorem q_fd_suf : ∀ {C : List q_I} {I : q_I} {tl : List q_I}, q_srt C = true → (I :: tl) <:+ C → q_fd C I.1 = some I
  | [], I, tl, _, h => by simp at h
  | J :: C, I, tl, hs, h => by
    unfold q_fd
    rcases List.suffix_cons_iff.mp h with e | h2
    · cases e
      rw [if_pos rfl]
    · have hm : I ∈ C := h2.subset List.mem_cons_self
      have hlt := q_srt_lt C J hs I hm
      rw [if_neg (by omega)]
      refine q_fd_suf ?_ h2
      cases C with
      | nil => cases hm
      | cons K C =>
        simp only [q_srt, Bool.and_eq_true] at hs
        exact hs.2
theorem a_jmp_suf (pc : Nat) : ∀ C : List q_I, a_jmp C pc <:+ C
  | [] => List.suffix_refl _
  | I :: C => by
    unfold a_jmp
    split
    · exact (a_jmp_suf pc C).trans (List.suffix_cons I C)
    · exact List.suffix_refl _
theorem a_at_ok {M : q_MI} {tl c : List q_I} {pc : Nat} (h : a_at M tl pc = some c) (ht : tl <:+ q_mC M) : ∃ J l, c = J :: l ∧ J.1 = pc ∧ c <:+ q_mC M := by
  have hj : ∀ {c : List q_I}, (match a_jmp (q_mC M) pc with | J :: l => if J.1 = pc then some (J :: l) else none | [] => none) = some c → ∃ J l, c = J :: l ∧ J.1 = pc ∧ c <:+ q_mC M := by
    intro c h
    have hs := a_jmp_suf pc (q_mC M)
    split at h
    · rename_i J l hJ
      split at h
      · rename_i hpc
        cases h
        rw [hJ] at hs
        exact ⟨J, l, rfl, hpc, hs⟩
      · cases h
    · cases h
  unfold a_at at h
  split at h
  · split at h
    · rename_i hpc
      cases h
      exact ⟨_, _, rfl, hpc, ht⟩
    · exact hj h
  · exact hj h
def g_F (b : Nat) (v : List Int) (f : a_F) (p : q_Fr) : Prop := f.1 = p.1 ∧ q_srt (q_mC f.1) = true ∧ (∃ J l, f.2.1 = J :: l ∧ J.1 = p.2.1 ∧ f.2.1 <:+ q_mC f.1) ∧ g_L b v f.2.2.1 p.2.2.1 ∧ g_s b v f.2.2.2 p.2.2.2
def g_S (L : Nat) (xs : Nat → Int32) (v : List Int) (S : List (a_N × a_N)) : Prop := ∀ q ∈ S, ∃ j : Int, g_lin v q.1.2.1 q.1.2.2 j ∧ 0 ≤ j ∧ j < L ∧ q.2.1 = false ∧ g_lin v q.2.2.1 q.2.2.2 (xs j.toNat).toInt
def g_K (ML : q_MI) (b L : Nat) (xs : Nat → Int32) (v : List Int) (K : a_K) (ps : List q_Fr) (m : q_M) : Prop := v.length = K.1 ∧ g_B v K.2.1 ∧ g_S L xs v K.2.2.1 ∧ g_2 (g_F b v) K.2.2.2.1 ps ∧ g_M b v K.2.2.2.2 m ∧ v[0]? = some (L : Int) ∧ L < 2147483648 ∧ (∀ f, ps.getLast? = some f → f.1 = ML)
theorem g_F_ext {b : Nat} {v t : List Int} {f : a_F} {p : q_Fr} (h : g_F b v f p) : g_F b (v ++ t) f p := ⟨h.1, h.2.1, h.2.2.1, g_L_ext h.2.2.2.1, g_s_ext h.2.2.2.2⟩
theorem g_S_ext {L : Nat} {xs : Nat → Int32} {v t : List Int} {S : List (a_N × a_N)} (h : g_S L xs v S) : g_S L xs (v ++ t) S := by
  intro q hq
  obtain ⟨j, h1, h2, h3, h4, h5⟩ := h q hq
  exact ⟨j, g_lin_ext h1, h2, h3, h4, g_lin_ext h5⟩
theorem g_0_ext {v t : List Int} {z : Int} (h : v[0]? = some z) : (v ++ t)[0]? = some z := by
  rw [List.getElem?_append_left (List.getElem?_eq_some_iff.mp h).1]
  exact h
theorem g_lin_uniq {v : List Int} {o : Option Nat} {c x y : Int} (h1 : g_lin v o c x) (h2 : g_lin v o c y) : x = y := by
  cases o with
  | none =>
    have h1 : x = c := h1
    have h2 : y = c := h2
    omega
  | some i =>
    obtain ⟨w, a1, a2⟩ := h1
    obtain ⟨u, b1, b2⟩ := h2
    rw [a1] at b1
    cases b1
    omega
theorem g_mmo {S : List (a_N × a_N)} {x y : a_N} (h : a_mmo S x = some y) : ∃ q ∈ S, q.1.2.1 = x.2.1 ∧ q.1.2.2 = x.2.2 ∧ q.2 = y := by
  induction S with
  | nil => cases h
  | cons q S ih =>
    unfold a_mmo at h
    split at h
    · rename_i he
      cases h
      simp only [a_eqn, decide_eq_true_eq] at he
      exact ⟨q, List.mem_cons_self, he.1, he.2, rfl⟩
    · obtain ⟨p, hp, h⟩ := ih h
      exact ⟨p, List.mem_cons_of_mem _ hp, h⟩
theorem g_scr {b L : Nat} {xs : Nat → Int32} {v : List Int} {k k1 : Nat} {B B1 : a_B} {S S1 : List (a_N × a_N)} {i : Instr} {sa sa1 : List a_V} {st : List Value} (h : a_scr k B S i sa = some (k1, B1, S1, sa1)) (hk : v.length = k) (hB : g_B v B) (hS : g_S L xs v S) (h0 : v[0]? = some (L : Int)) (hL : L < 2147483648) (hs : g_s b v sa st) :
    ∃ (t : List Int) (st1 : List Value), q_scr b L xs i st = some st1 ∧ (v ++ t).length = k1 ∧ g_B (v ++ t) B1 ∧ g_S L xs (v ++ t) S1 ∧ g_s b (v ++ t) sa1 st1 := by
  unfold a_scr at h
  split at h
  · split at h
    rotate_left
    · cases h
    rename_i x r
    obtain ⟨w, ws, rfl, hw, hs1⟩ := g_ca hs
    replace hs := hs1
    obtain ⟨y, ys, rfl, hy, hs1⟩ := g_ca hs
    replace hs := hs1
    have hy : y = .retAddr b := hy
    subst hy
    obtain ⟨j, rfl, hj⟩ := hw
    split at h
    · rename_i y0 hy0
      cases h
      obtain ⟨q, hq, e1, e2, rfl⟩ := g_mmo hy0
      obtain ⟨z, z1, z2, z3, z4, z5⟩ := hS q hq
      rw [e1, e2] at z1
      have hz := g_lin_uniq hj z1
      obtain ⟨hin, he, hlt, -⟩ := g_ix (j := j) (n := L) (by omega) (by omega)
      refine ⟨[], .int (xs j.toNatClampNeg) :: ys, by simp only [q_scr]; rw [if_pos ⟨trivial, hin⟩], by simpa using hk, by simpa using hB, by simpa using hS, ?_, by simpa using hs⟩
      have e3 : z.toNat = j.toNatClampNeg := by omega
      rw [e3] at z5
      obtain ⟨qa, qb⟩ := q
      obtain ⟨lg, oo, cc⟩ := qb
      simp only at z4 z5
      subst z4
      exact ⟨_, rfl, by simpa using z5⟩
    · split at h
      rotate_left
      · cases h
      rename_i hc
      cases h
      have hi := g_iv hB (x := (false, x)) hj (g_o32 j)
      have hl := g_iv hB (x := (true, some 0, 0)) (z := (L : Int)) ⟨L, h0, by show (L : Int) = L + 0; omega⟩ (Or.inr ⟨by show (-9223372036854775808 : Int) ≤ _; omega, by show _ ≤ (9223372036854775807 : Int); omega⟩)
      obtain ⟨hin, he, hlt, -⟩ := g_ix (j := j) (n := L) (by omega) (by omega)
      obtain ⟨t, t1, t2, t3, t4⟩ := g_top hk hB (lg := false) (g_in32 (xs j.toNatClampNeg))
      refine ⟨t, .int (xs j.toNatClampNeg) :: ys, by simp only [q_scr]; rw [if_pos ⟨trivial, hin⟩], t1, t2, ?_, ⟨_, rfl, t4⟩, g_s_ext hs⟩
      intro q hq
      rcases List.mem_cons.mp hq with rfl | hq
      · exact ⟨j.toInt, g_lin_ext hj, by omega, by omega, rfl, t4⟩
      · exact g_S_ext hS q hq
  · split at h
    rotate_left
    · cases h
    cases h
    obtain ⟨y, ys, rfl, hy, hs1⟩ := g_ca hs
    replace hs := hs1
    have hy : y = .retAddr b := hy
    subst hy
    exact ⟨[], .int (Int32.ofNat L) :: ys, by simp only [q_scr]; rw [if_pos trivial], by simpa using hk, by simpa using hB, by simpa using hS, ⟨_, rfl, by rw [g_len hL]; exact ⟨L, g_0_ext h0, by show (L : Int) = L + 0; omega⟩⟩, by simpa using hs⟩
  · cases h
end
section
section GFIN
variable {G : q_G} {b L : Nat} {xs : Nat → Int32} {ML : q_MI} {P : Int32 → q_M → Prop}
theorem q_Kt_step {M : q_MI} {pc pc1 : Nat} {l l1 : q_L} {st st1 : List Value} {m m1 : q_M} {fs : List q_Fr} (hr : fs ≠ [] → ∀ n, q_run G (n + 1) M pc l st m = q_run G n M pc1 l1 st1 m1) (hl : fs = [] → ∀ n, q_lrun G b L xs ML (n + 1) pc l st m = q_lrun G b L xs ML n pc1 l1 st1 m1)
    (h : q_Kt G b L xs ML P ((M, pc1, l1, st1) :: fs) none m1) : q_Kt G b L xs ML P ((M, pc, l, st) :: fs) none m := by
  cases fs with
  | nil =>
    obtain ⟨n, v, qF, h1, h2⟩ := h
    exact ⟨n + 1, v, qF, (hl rfl n).trans h1, h2⟩
  | cons f fs =>
    obtain ⟨n, r1, m2, h1, h2⟩ := h
    exact ⟨n + 1, r1, m2, (hr (by simp) n).trans h1, h2⟩
theorem q_Kt_call {M M1 : q_MI} {pc pc1 : Nat} {l lv : q_L} {st rest : List Value} {m : q_M} {fs : List q_Fr}
    (hr : fs ≠ [] → ∀ n r m1, q_run G n M1 0 lv [] m = some (r, m1) → q_run G (n + 1) M pc l st m = q_run G n M pc1 l (r.toList ++ rest) m1) (hl : fs = [] → ∀ n r m1, q_run G n M1 0 lv [] m = some (r, m1) → q_lrun G b L xs ML (n + 1) pc l st m = q_lrun G b L xs ML n pc1 l (r.toList ++ rest) m1)
    (h : q_Kt G b L xs ML P ((M1, 0, lv, []) :: (M, pc1, l, rest) :: fs) none m) : q_Kt G b L xs ML P ((M, pc, l, st) :: fs) none m := by
  obtain ⟨n, r, m1, h1, h2⟩ := h
  cases fs with
  | nil =>
    obtain ⟨n2, v, qF, h3, h4⟩ := h2
    have e1 := q_fuel n (n + n2) _ _ _ _ _ _ (by omega) h1
    have e2 := q_lfuel n2 (n + n2) _ _ _ _ _ (by omega) h3
    exact ⟨n + n2 + 1, v, qF, (hl rfl _ _ _ e1).trans e2, h4⟩
  | cons f fs =>
    obtain ⟨n2, r2, m2, h3, h4⟩ := h2
    have e1 := q_fuel n (n + n2) _ _ _ _ _ _ (by omega) h1
    have e2 := q_fuel n2 (n + n2) _ _ _ _ _ _ (by omega) h3
    exact ⟨n + n2 + 1, r2, m2, (hr (by simp) _ _ _ e1).trans e2, h4⟩
theorem q_Kt_ret {M M2 : q_MI} {pc pc2 : Nat} {l l2 : q_L} {st st2 : List Value} {m : q_M} {r : Option Value} {fs : List q_Fr} (hr : q_run G 1 M pc l st m = some (r, m)) (h : q_Kt G b L xs ML P ((M2, pc2, l2, r.toList ++ st2) :: fs) none m) : q_Kt G b L xs ML P ((M, pc, l, st) :: (M2, pc2, l2, st2) :: fs) none m := by
  refine ⟨1, r, m, hr, ?_⟩
  cases fs with
  | nil => exact h
  | cons f fs => exact h
theorem g_nxt {M : q_MI} {tl : List q_I} {fs : List a_F} {S : List (a_N × a_N)} {m : List a_C} : ∀ {ps : List a_P} {Ks : List a_K}, a_nxt M tl fs S m ps = some Ks → ∀ p ∈ ps, ∃ c, a_at M tl p.2.2.1 = some c ∧ ((p.1, p.2.1, S, (M, c, p.2.2.2.1, p.2.2.2.2) :: fs, m) : a_K) ∈ Ks
  | [], Ks, h, p, hp => by cases hp
  | q :: ps, Ks, h, p, hp => by
    unfold a_nxt at h
    split at h
    · rename_i c l h1 h2
      cases h
      rcases List.mem_cons.mp hp with rfl | hp
      · exact ⟨c, h1, List.mem_cons_self⟩
      · obtain ⟨c2, e1, e2⟩ := g_nxt h2 p hp
        exact ⟨c2, e1, List.mem_cons_of_mem _ e2⟩
    · cases h
theorem g_last {α : Type} {P : α → Prop} {f g : α} {fs : List α} (h : ∀ z, (f :: fs).getLast? = some z → P z) (hg : fs = [] → P f → P g) : ∀ z, (g :: fs).getLast? = some z → P z := by
  intro z hz
  cases fs with
  | nil =>
    simp at hz
    subst hz
    exact hg rfl (h f (by simp))
  | cons a fs =>
    refine h z ?_
    rw [List.getLast?_cons_cons] at hz ⊢
    exact hz
theorem g_step {mx ml : Nat} (hsG : ∀ M ∈ q_gM G, q_srt (q_mC M) = true) {K : a_K} {Ks : List a_K} (h : a_step G mx ml K = some Ks) {v : List Int} {ps : List q_Fr} {m : q_M} (hK : g_K ML b L xs v K ps m) :
    q_Kt G b L xs ML (fun z qF => z = 1 ∧ qF.length ≤ mx ∧ q_sl qF ≤ ml) ps none m ∨ ∃ K1 ∈ Ks, ∃ (v1 : List Int) (ps1 : List q_Fr) (m1 : q_M), g_K ML b L xs v1 K1 ps1 m1 ∧ (q_Kt G b L xs ML (fun z qF => z = 1 ∧ qF.length ≤ mx ∧ q_sl qF ≤ ml) ps1 none m1 → q_Kt G b L xs ML (fun z qF => z = 1 ∧ qF.length ≤ mx ∧ q_sl qF ≤ ml) ps none m) := by
  obtain ⟨k, B, S, fs0, ma⟩ := K
  obtain ⟨hk, hB, hS, hF, hM, h0, hL, hlast⟩ := hK
  simp only at hk hB hS hF hM
  unfold a_step at h
  split at h
  · cases h
  · cases h
  rename_i k' B' S' M pc raw len i pos tl la sa fs ma' heq
  cases heq
  obtain ⟨p0, pfs, rfl, hf, hfs⟩ := g_ca hF
  obtain ⟨M0, pc0, l, st⟩ := p0
  obtain ⟨e1, hsrt, ⟨J, jl, e2, e3, hsuf⟩, hl, hs⟩ := hf
  simp only at e1 e2 e3 hsrt hsuf hl hs
  subst e1
  cases e2
  simp only at e3
  subst e3
  have hfd := q_fd_suf hsrt hsuf
  simp only at hfd
  have htl : tl <:+ q_mC M := (List.suffix_cons _ tl).trans hsuf
  have hlen : fs.length = pfs.length := g_2_len hfs
  have hnil : pfs = [] → fs = [] := fun q => by rw [q] at hlen; exact List.eq_nil_of_length_eq_zero hlen
  have hnil2 : fs = [] → pfs = [] := fun q => by rw [q] at hlen; exact List.eq_nil_of_length_eq_zero hlen.symm
  have hML : pfs = [] → M = ML := fun q => by
    subst q
    exact hlast (M, pc, l, st) (by simp)
  have hfdL : pfs = [] → q_fd (q_mC ML) pc = some (pc, raw, len, i, pos) := fun q => by rw [← hML q]; exact hfd
  split at h
  · -- pure
    rename_i hg
    split at h
    rotate_left
    · cases h
    rename_i ps1 hp
    obtain ⟨p, hpm, t, l1, st1, r1, r2, r3, r4, r5⟩ := g_pure hp hk hB hl hs
    obtain ⟨c, c1, c2⟩ := g_nxt h p hpm
    obtain ⟨J1, jl1, d1, d2, d3⟩ := a_at_ok c1 htl
    refine Or.inr ⟨_, c2, v ++ t, (M, p.2.2.1, l1, st1) :: pfs, m, ⟨r2, r3, g_S_ext hS, ⟨⟨rfl, hsrt, ⟨J1, jl1, d1, d2, d3⟩, r4, r5⟩, g_2_mono (fun _ _ => g_F_ext) hfs⟩, g_M_ext hM, g_0_ext h0, hL, g_last hlast (fun _ q => q)⟩, q_Kt_step (fun _ n => ?_) (fun q n => ?_)⟩
    · conv => lhs; unfold q_run
      simp only [hfd, hg, r1]
    · have e := hML q
      subst e
      conv => lhs; unfold q_lrun
      simp only [hfd, hg, r1]
  · -- memory, or the script
    rename_i hg
    split at h
    rotate_left
    · cases h
    rename_i c c1
    obtain ⟨J1, jl1, d1, d2, d3⟩ := a_at_ok c1 htl
    split at h
    · -- the law
      have hp0 := hnil2 rfl
      subst hp0
      split at h
      rotate_left
      · cases h
      rename_i k1 B1 S1 st1a hp
      cases h
      obtain ⟨t, st1, r1, r2, r3, r4, r5⟩ := g_scr hp hk hB hS h0 hL hs
      refine Or.inr ⟨_, List.mem_singleton.mpr rfl, v ++ t, [(M, pc + len, l, st1)], m, ⟨r2, r3, r4, ⟨⟨rfl, hsrt, ⟨J1, jl1, d1, d2, d3⟩, g_L_ext hl, r5⟩, trivial⟩, g_M_ext hM, g_0_ext h0, hL, g_last hlast (fun _ q => q)⟩, q_Kt_step (fun q => absurd rfl q) (fun q n => ?_)⟩
      have e := hML q
      subst e
      conv => lhs; unfold q_lrun
      simp only [hfd, hg, r1]
    · rename_i f1 fs1
      split at h
      rotate_left
      · cases h
      rename_i ps1 hp
      cases h
      obtain ⟨p, hpm, t, st1, m1, r1, r2, r3, r4, r5⟩ := g_mem hp hk hB hs hM
      refine Or.inr ⟨_, List.mem_map.mpr ⟨p, hpm, rfl⟩, v ++ t, (M, pc + len, l, st1) :: pfs, m1, ⟨r2, r3, g_S_ext hS, ⟨⟨rfl, hsrt, ⟨J1, jl1, d1, d2, d3⟩, g_L_ext hl, r4⟩, g_2_mono (fun _ _ => g_F_ext) hfs⟩, r5, g_0_ext h0, hL, g_last hlast (fun _ q => q)⟩, q_Kt_step (fun _ n => ?_) (fun q n => ?_)⟩
      · conv => lhs; unfold q_run
        simp only [hfd, hg, r1]
      · exact absurd (hnil q) (by simp)
  · -- a new cell
    rename_i hg
    split at h
    rotate_left
    · cases h
    rename_i c st1a x c1 hp
    cases h
    obtain ⟨J1, jl1, d1, d2, d3⟩ := a_at_ok c1 htl
    obtain ⟨st1, y, r1, r2, r3⟩ := g_cel hp hB hs hM
    refine Or.inr ⟨_, List.mem_singleton.mpr rfl, v, (M, pc + len, l, st1) :: pfs, m ++ [y], ⟨hk, hB, hS, ⟨⟨rfl, hsrt, ⟨J1, jl1, d1, d2, d3⟩, hl, r2⟩, hfs⟩, g_2_app hM ⟨r3, trivial⟩, h0, hL, g_last hlast (fun _ q => q)⟩, q_Kt_step (fun _ n => ?_) (fun q n => ?_)⟩
    · conv => lhs; unfold q_run
      simp only [hfd, hg, r1]
    · have e := hML q
      subst e
      conv => lhs; unfold q_lrun
      simp only [hfd, hg, r1]
  · -- call or return
    rename_i hg
    split at h
    · rename_i j hj
      split at h
      rotate_left
      · cases h
      rename_i c M1 as rest c1 hp
      split at h
      rotate_left
      · cases h
      rename_i c2 hc2
      cases h
      obtain ⟨J1, jl1, d1, d2, d3⟩ := a_at_ok c1 htl
      obtain ⟨J2, jl2, d4, d5, d6⟩ := a_at_ok hc2 (List.suffix_refl _)
      obtain ⟨vs, rs, r1, r2, r3, r4⟩ := g_call hp hs hM
      refine Or.inr ⟨_, List.mem_singleton.mpr rfl, v, (M1, 0, lv_args 0 vs, []) :: (M, pc + len, l, rs) :: pfs, m, ⟨hk, hB, hS, ⟨⟨rfl, hsG M1 (List.mem_of_getElem? r4), ⟨J2, jl2, d4, d5, d6⟩, g_lvs 0 r2, trivial⟩, ⟨rfl, hsrt, ⟨J1, jl1, d1, d2, d3⟩, hl, r3⟩, hfs⟩, hM, h0, hL, fun z hz => ?_⟩, q_Kt_call (fun _ n r m1 hr => ?_) (fun q n r m1 hr => ?_)⟩
      · rw [List.getLast?_cons_cons] at hz
        exact g_last (P := fun f : q_Fr => f.1 = ML) (g := (M, pc + len, l, rs)) hlast (fun _ q => q) z hz
      · conv => lhs; unfold q_run
        simp only [hfd, hg, hj, r1, hr]
      · have e := hML q
        subst e
        conv => lhs; unfold q_lrun
        simp only [hfd, hg, hj, r1, hr]
    · rename_i hj
      split at h
      · have hp0 := hnil2 rfl
        subst hp0
        split at h
        rotate_left
        · cases h
        rename_i x
        split at h
        rotate_left
        · cases h
        rename_i hc
        obtain ⟨y, ys, rfl, hy, hs1⟩ := g_ca hs
        replace hs := hs1
        have := g_na hs
        subst this
        obtain ⟨w, rfl, hy⟩ := hy
        have hi := g_iv hB (x := (false, x)) hy (g_o32 w)
        have hw : w = 1 := Int32.toInt_inj.mp (by rw [show (1 : Int32).toInt = 1 by decide]; omega)
        left
        refine ⟨1, w, m, ?_, hw, by rw [← g_2_len hM]; exact hc.2.2.1, by rw [← g_sl hM]; exact hc.2.2.2⟩
        have e := hML rfl
        subst e
        show q_lrun G b L xs M 1 pc l [.int w] m = _
        unfold q_lrun
        simp only [hfd, hg, hj]
      · rename_i M2 c2 l2 st2 fs2
        split at h
        rotate_left
        · cases h
        rename_i ra hr
        cases h
        obtain ⟨q0, qs, rfl, hf2, hfs2⟩ := g_ca hfs
        obtain ⟨M3, pc3, l3, st3⟩ := q0
        obtain ⟨e1, hsrt2, hcd2, hl2, hs2⟩ := hf2
        simp only at e1 hsrt2 hcd2 hl2 hs2
        subst e1
        obtain ⟨r, r1, r2⟩ := g_ret hr hB hs
        refine Or.inr ⟨_, List.mem_singleton.mpr rfl, v, (M2, pc3, l3, r.toList ++ st3) :: qs, m, ⟨hk, hB, hS, ⟨⟨rfl, hsrt2, hcd2, hl2, g_2_app r2 hs2⟩, hfs2⟩, hM, h0, hL, fun z hz => ?_⟩, q_Kt_ret ?_⟩
        · refine g_last (P := fun f : q_Fr => f.1 = ML) (f := (M2, pc3, l3, st3)) (g := (M2, pc3, l3, r.toList ++ st3)) (fun z hz => hlast z (by rw [List.getLast?_cons_cons]; exact hz)) (fun _ q => q) z hz
        · unfold q_run
          simp only [hfd, hg, hj, r1]
  · -- a constant
    rename_i hg0 hg1 hg2 hg3
    split at h
    rotate_left
    · cases h
    rename_i c st1a c1 hp
    cases h
    obtain ⟨J1, jl1, d1, d2, d3⟩ := a_at_ok c1 htl
    obtain ⟨st1, r1, r2⟩ := g_lk hp hs
    refine Or.inr ⟨_, List.mem_singleton.mpr rfl, v, (M, pc + len, l, st1) :: pfs, m, ⟨hk, hB, hS, ⟨⟨rfl, hsrt, ⟨J1, jl1, d1, d2, d3⟩, hl, r2⟩, hfs⟩, hM, h0, hL, g_last hlast (fun _ q => q)⟩, q_Kt_step (fun _ n => ?_) (fun q n => ?_)⟩
    · conv => lhs; unfold q_run
      simp only [hfd, r1]
    · have e := hML q
      subst e
      conv => lhs; unfold q_lrun
      simp only [hfd, r1]
theorem g_run {mx ml : Nat} (hsG : ∀ M ∈ q_gM G, q_srt (q_mC M) = true) : ∀ (n : Nat) (K : a_K), a_run G mx ml n K = true → ∀ (v : List Int) (ps : List q_Fr) (m : q_M), g_K ML b L xs v K ps m → q_Kt G b L xs ML (fun z qF => z = 1 ∧ qF.length ≤ mx ∧ q_sl qF ≤ ml) ps none m
  | 0, K, h, _, _, _, _ => by cases h
  | n + 1, K, h, v, ps, m, hK => by
    have h : (match a_step G mx ml K with | none => false | some [] => true | some [K1] => a_run G mx ml n K1 | some Ks => Ks.all (a_run G mx ml n)) = true := h
    obtain ⟨Ks, hs, h⟩ : ∃ Ks, a_step G mx ml K = some Ks ∧ Ks.all (a_run G mx ml n) = true := by
      split at h
      · cases h
      · rename_i hs
        exact ⟨_, hs, rfl⟩
      · rename_i hs
        exact ⟨_, hs, by simpa using h⟩
      · rename_i hs
        exact ⟨_, hs, h⟩
    rcases g_step hsG hs hK with h1 | ⟨K1, hm, v1, ps1, m1, hK1, hgo⟩
    · exact h1
    · exact hgo (g_run hsG n K1 (List.all_eq_true.mp h K1 hm) v1 ps1 m1 hK1)
end GFIN
end
section
/-! a front of states, all gone on by so many steps -/
def a_one (G : q_G) (mx ml : Nat) : List a_K → Option (List a_K)
  | [] => some []
  | K :: Ks => match a_step G mx ml K, a_one G mx ml Ks with
    | some l, some r => some (l ++ r)
    | _, _ => none
noncomputable def a_fr (G : q_G) (mx ml : Nat) (n : Nat) : List a_K → Option (List a_K) := Nat.rec (motive := fun _ => List a_K → Option (List a_K)) (fun Ks => some Ks) (fun _ ih Ks => match a_one G mx ml Ks with
  | some Ks1 => ih Ks1
  | none => none) n
section GFR
variable {G : q_G} {b L : Nat} {xs : Nat → Int32} {ML : q_MI} {mx ml : Nat}
def g_Good (G : q_G) (ML : q_MI) (b L : Nat) (xs : Nat → Int32) (mx ml : Nat) (K : a_K) : Prop := ∀ (v : List Int) (ps : List q_Fr) (m : q_M), g_K ML b L xs v K ps m → q_Kt G b L xs ML (fun z qF => z = 1 ∧ qF.length ≤ mx ∧ q_sl qF ≤ ml) ps none m
theorem g_one (hsG : ∀ M ∈ q_gM G, q_srt (q_mC M) = true) : ∀ {Ks Ks1 : List a_K}, a_one G mx ml Ks = some Ks1 → (∀ K ∈ Ks1, g_Good G ML b L xs mx ml K) → ∀ K ∈ Ks, g_Good G ML b L xs mx ml K
  | [], _, _, _, K, hK => by cases hK
  | K0 :: Ks, Ks1, h, hg, K, hK => by
    unfold a_one at h
    split at h
    rotate_left
    · cases h
    rename_i l r h1 h2
    cases h
    rcases List.mem_cons.mp hK with rfl | hK
    · intro v ps m hk
      rcases g_step hsG h1 hk with h3 | ⟨K1, hm, v1, ps1, m1, hK1, hgo⟩
      · exact h3
      · exact hgo (hg K1 (List.mem_append_left _ hm) v1 ps1 m1 hK1)
    · exact g_one hsG h2 (fun z hz => hg z (List.mem_append_right _ hz)) K hK
theorem g_fr (hsG : ∀ M ∈ q_gM G, q_srt (q_mC M) = true) : ∀ (n : Nat) {Ks Ks1 : List a_K}, a_fr G mx ml n Ks = some Ks1 → (∀ K ∈ Ks1, g_Good G ML b L xs mx ml K) → ∀ K ∈ Ks, g_Good G ML b L xs mx ml K
  | 0, Ks, Ks1, h, hg => by
    cases h
    exact hg
  | n + 1, Ks, Ks1, h, hg => by
    have h : (match a_one G mx ml Ks with | some Ks2 => a_fr G mx ml n Ks2 | none => none) = some Ks1 := h
    split at h
    rotate_left
    · cases h
    rename_i Ks2 h1
    exact g_one hsG h1 (g_fr hsG n h hg)
theorem g_fr' (hsG : ∀ M ∈ q_gM G, q_srt (q_mC M) = true) {n k : Nat} {Ks F : List a_K} (hF : a_fr G mx ml n Ks = some F) (hlen : F.length ≤ k) (hg : ∀ j, j < k → ∀ K, F[j]? = some K → g_Good G ML b L xs mx ml K) : ∀ K ∈ Ks, g_Good G ML b L xs mx ml K := by
  refine g_fr hsG n hF (fun K hK => ?_)
  obtain ⟨j, hj⟩ := List.getElem?_of_mem hK
  exact hg j (Nat.lt_of_lt_of_le (List.getElem?_eq_some_iff.mp hj).1 hlen) K hj
end GFR
end

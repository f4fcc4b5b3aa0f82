section
/-! THE PURE MACHINE: cells by their number, a step as a function; refs are numbers of cells, the cell k lies at the address bs + k -/
abbrev q_A : Type := Nat × Nat × ((Nat → Int32) ⊕ (Nat → Int64) ⊕ (Nat → Option Nat))
abbrev q_E : Type := q_A ⊕ (Nat × List Value)
abbrev q_M : Type := List q_E
abbrev q_L : Type := List (Nat × Value)
def q_cv (bs : Nat) (v : Value) : Value := match v with
  | .ref k => .ref (bs + k)
  | .retAddr b => .ref b
  | v => v
def q_ce (bs : Nat) (tc : Nat → ClassId) (x : q_E) : va_E := match x with
  | .inl (t, n, .inl f) => .inl (tc t, n, .inl f)
  | .inl (t, n, .inr (.inl f)) => .inl (tc t, n, .inr (.inl f))
  | .inl (t, n, .inr (.inr f)) => .inl (tc t, n, .inr (.inr (.inr (.inr (fun j => (f j).map (fun k => bs + k))))))
  | .inr (ci, fs) => .inr (ci, fs.map (q_cv bs))
def q_cw (bs : Nat) (tc : Nat → ClassId) (m : q_M) : va_W := m.mapIdx (fun k x => (bs + k, q_ce bs tc x))
def q_cl (bs : Nat) (l : q_L) : q_L := l.map (fun q => (q.1, q_cv bs q.2))
def q_sz (x : q_E) : Nat := match x with
  | .inl (_, n, _) => n
  | .inr (_, fs) => fs.length
def q_sl (m : q_M) : Nat := (m.map q_sz).sum
theorem q_cv_cat (bs : Nat) (v : Value) : (q_cv bs v).category = v.category := by cases v <;> rfl
theorem q_cv_narrow (bs : Nat) (ty : FieldType) (v : Value) : narrow ty (q_cv bs v) = q_cv bs (narrow ty v) := by
  cases v <;> cases ty <;> rfl
theorem q_cv_fits (bs : Nat) (ty : FieldType) (v : Value) (h : fits ty v = true) : fits ty (q_cv bs v) = true := by
  cases v <;> cases ty <;> first | exact h | cases h
theorem q_cw_get {bs : Nat} {tc : Nat → ClassId} {m : q_M} {k : Nat} {x : q_E} (h : m[k]? = some x) : (q_cw bs tc m)[k]? = some (bs + k, q_ce bs tc x) := by
  simp [q_cw, h]
theorem q_cw_len {bs : Nat} {tc : Nat → ClassId} {m : q_M} : (q_cw bs tc m).length = m.length := by simp [q_cw]
theorem q_cw_set {bs : Nat} {tc : Nat → ClassId} {m : q_M} {k : Nat} {x : q_E} : (q_cw bs tc m).set k (bs + k, q_ce bs tc x) = q_cw bs tc (m.set k x) := by
  apply List.ext_getElem?
  intro i
  simp only [q_cw, List.getElem?_mapIdx, List.getElem?_set, List.length_mapIdx]
  by_cases h : k = i
  · subst h
    by_cases hl : k < m.length <;> simp [hl]
  · simp [h]
theorem q_cw_push {bs : Nat} {tc : Nat → ClassId} {m : q_M} {x : q_E} : q_cw bs tc m ++ [(bs + m.length, q_ce bs tc x)] = q_cw bs tc (m ++ [x]) := by
  simp [q_cw]
theorem q_cw_D {bs : Nat} {tc : Nat → ClassId} {m : q_M} : va_D (fun q => bs ≤ q) (q_cw bs tc m) := by
  refine ⟨fun i j x y hi hj hxy => ?_, fun k q hk => ?_⟩
  · simp only [q_cw, List.getElem?_mapIdx, Option.map_eq_some_iff] at hi hj
    obtain ⟨a, -, rfl⟩ := hi
    obtain ⟨b, -, rfl⟩ := hj
    simp only at hxy
    omega
  · simp only [q_cw, List.getElem?_mapIdx, Option.map_eq_some_iff] at hk
    obtain ⟨a, -, rfl⟩ := hk
    exact Nat.le_add_right _ _
/-- the heap holds the pure memory -/
abbrev q_Wd (D : va_G) (cl : List vw_C) (bs : Nat) (tc : Nat → ClassId) (m : q_M) (H : Heap) : Prop := va_P D cl (q_cw bs tc m) H
theorem q_sl_set {m : q_M} {k : Nat} {x y : q_E} (h : m[k]? = some x) (hs : q_sz y = q_sz x) : q_sl (m.set k y) = q_sl m := by
  have e : (m.set k y).map q_sz = m.map q_sz := by
    apply List.ext_getElem?
    intro i
    simp only [List.getElem?_map, List.getElem?_set]
    by_cases hk : k = i
    · subst hk
      have hl := (List.getElem?_eq_some_iff.mp h).1
      have e2 : m[k] = x := by
        rw [List.getElem?_eq_getElem hl] at h
        exact Option.some.inj h
      simp [hl, e2, hs]
    · simp [hk]
  simp [q_sl, e]
theorem q_sl_push (m : q_M) (x : q_E) : q_sl (m ++ [x]) = q_sl m + q_sz x := by simp [q_sl]
/-- locals -/
def q_get (l : q_L) (k : Nat) : Option Value := match l with
  | [] => none
  | q :: l => if q.1 = k then some q.2 else q_get l k
theorem q_get_mem : ∀ {l : q_L} {k : Nat} {v : Value}, q_get l k = some v → (k, v) ∈ l
  | [], k, v, h => by simp [q_get] at h
  | q :: l, k, v, h => by
    unfold q_get at h
    by_cases hk : q.1 = k
    · rw [if_pos hk] at h
      cases h
      subst hk
      exact List.mem_cons_self
    · rw [if_neg hk] at h
      exact List.mem_cons_of_mem _ (q_get_mem h)
def q_s1 (l : q_L) (i : Nat) (v : Value) : q_L := (i, v) :: l.filter (fun q => !(q.1 == i) && !(q.1 + 1 == i && q.2.category == 2))
def q_s2 (l : q_L) (i : Nat) (v : Value) : q_L := (i, v) :: l.filter (fun q => !(q.1 == i) && (!(q.1 == i + 1) && !(q.1 + 1 == i && q.2.category == 2)))
theorem q_cl_filter (bs : Nat) (P : Nat → Nat → Bool) : ∀ l : q_L, (q_cl bs l).filter (fun q => P q.1 q.2.category) = q_cl bs (l.filter (fun q => P q.1 q.2.category))
  | [] => rfl
  | q :: l => by
    have ih := q_cl_filter bs P l
    simp only [q_cl, List.map_cons, List.filter_cons, q_cv_cat] at ih ⊢
    by_cases h : P q.1 q.2.category = true
    · simp [h, ih]
    · simp [h, ih]
theorem q_cl_s1 (bs : Nat) (l : q_L) (i : Nat) (v : Value) : (i, q_cv bs v) :: (q_cl bs l).filter (fun q => !(q.1 == i) && !(q.1 + 1 == i && q.2.category == 2)) = q_cl bs (q_s1 l i v) := by
  rw [q_cl_filter bs (fun a b => !(a == i) && !(a + 1 == i && b == 2)) l]
  rfl
theorem q_cl_s2 (bs : Nat) (l : q_L) (i : Nat) (v : Value) : (i, q_cv bs v) :: (q_cl bs l).filter (fun q => !(q.1 == i) && (!(q.1 == i + 1) && !(q.1 + 1 == i && q.2.category == 2))) = q_cl bs (q_s2 l i v) := by
  rw [q_cl_filter bs (fun a b => !(a == i) && (!(a == i + 1) && !(a + 1 == i && b == 2))) l]
  rfl
theorem q_lv {ls : Array Slot} {nL bs : Nat} {l : q_L} (h : lv_has ls nL (q_cl bs l)) {k : Nat} {v : Value} (hg : q_get l k = some v) : ls[k]? = some (.val (q_cv bs v)) :=
  h.2.2 (k, q_cv bs v) (List.mem_map.mpr ⟨(k, v), q_get_mem hg, rfl⟩)
theorem q_lvx {bs : Nat} {l : q_L} {k : Nat} {v : Value} (hg : q_get l k = some v) : ∃ j : Nat, (q_cl bs l)[j]? = some (k, q_cv bs v) :=
  List.getElem?_of_mem (List.mem_map.mpr ⟨(k, v), q_get_mem hg, rfl⟩)
def q_in (i : Int32) (n : Nat) : Bool := !(decide (i < 0)) && decide (i.toNatClampNeg < n)
theorem q_in_vp {i : Int32} {n : Nat} (h : q_in i n = true) : vp_in i n := by
  simp only [q_in, Bool.and_eq_true, Bool.not_eq_true', decide_eq_false_iff_not, decide_eq_true_eq] at h
  rintro (h1 | h1)
  · exact h.1 h1
  · omega
end
section
def q_c (c : Jvm.ClassFile.Cond) (x y : Int32) : Bool := match c with
  | .eq => decide (x = y)
  | .ne => decide (¬ x = y)
  | .lt => decide (x < y)
  | .ge => decide (y ≤ x)
  | .gt => decide (y < x)
  | .le => decide (x ≤ y)
def q_to (pc : Nat) (off : Int) (l : q_L) (st : List Value) : Option (Nat × q_L × List Value) := if 0 ≤ (pc : Int) + off then some (((pc : Int) + off).toNat, l, st) else none
def q_br (pc len : Nat) (off : Int) (b : Bool) (l : q_L) (st : List Value) : Option (Nat × q_L × List Value) := if 0 ≤ (pc : Int) + off then some (if b = true then ((pc : Int) + off).toNat else pc + len, l, st) else none
/-- a step that leaves the memory alone -/
def q_pure (nL pc len : Nat) (i : Instr) (l : q_L) (st : List Value) : Option (Nat × q_L × List Value) := match i with
  | .iconst n => some (pc + len, l, .int (Int32.ofInt n) :: st)
  | .goto_w n => some (pc + len, l, .long (Int64.ofInt n) :: st)
  | .iload k => (match q_get l k with | some (.int x) => some (pc + len, l, .int x :: st) | _ => none)
  | .lload k => (match q_get l k with | some (.long x) => some (pc + len, l, .long x :: st) | _ => none)
  | .aload k => (match q_get l k with | some (.ref x) => some (pc + len, l, .ref x :: st) | some (.retAddr x) => some (pc + len, l, .retAddr x :: st) | _ => none)
  | .istore k => (match st with | .int x :: r => if k < nL then some (pc + len, q_s1 l k (.int x), r) else none | _ => none)
  | .astore k => (match st with | .ref x :: r => if k < nL then some (pc + len, q_s1 l k (.ref x), r) else none | _ => none)
  | .lstore k => (match st with | .long x :: r => if k + 1 < nL then some (pc + len, q_s2 l k (.long x), r) else none | _ => none)
  | .iinc k n => (match q_get l k with | some (.int x) => if k < nL then some (pc + len, q_s1 l k (.int (x + Int32.ofInt n)), st) else none | _ => none)
  | .iadd => (match st with | .int y :: .int x :: r => some (pc + len, l, .int (x + y) :: r) | _ => none)
  | .isub => (match st with | .int y :: .int x :: r => some (pc + len, l, .int (x - y) :: r) | _ => none)
  | .imul => (match st with | .int y :: .int x :: r => some (pc + len, l, .int (x * y) :: r) | _ => none)
  | .iand => (match st with | .int y :: .int x :: r => some (pc + len, l, .int (x &&& y) :: r) | _ => none)
  | .ior => (match st with | .int y :: .int x :: r => some (pc + len, l, .int (x ||| y) :: r) | _ => none)
  | .ixor => (match st with | .int y :: .int x :: r => some (pc + len, l, .int (x ^^^ y) :: r) | _ => none)
  | .ishl => (match st with | .int y :: .int x :: r => some (pc + len, l, .int (x <<< (y &&& 31)) :: r) | _ => none)
  | .ishr => (match st with | .int y :: .int x :: r => some (pc + len, l, .int (x >>> (y &&& 31)) :: r) | _ => none)
  | .iushr => (match st with | .int y :: .int x :: r => some (pc + len, l, .int ((x.toUInt32 >>> (y.toUInt32 &&& Int32.toUInt32 31)).toInt32) :: r) | _ => none)
  | .ladd => (match st with | .long y :: .long x :: r => some (pc + len, l, .long (x + y) :: r) | _ => none)
  | .lsub => (match st with | .long y :: .long x :: r => some (pc + len, l, .long (x - y) :: r) | _ => none)
  | .lmul => (match st with | .long y :: .long x :: r => some (pc + len, l, .long (x * y) :: r) | _ => none)
  | .land => (match st with | .long y :: .long x :: r => some (pc + len, l, .long (x &&& y) :: r) | _ => none)
  | .lor => (match st with | .long y :: .long x :: r => some (pc + len, l, .long (x ||| y) :: r) | _ => none)
  | .lxor => (match st with | .long y :: .long x :: r => some (pc + len, l, .long (x ^^^ y) :: r) | _ => none)
  | .idiv => (match st with | .int y :: .int x :: r => if y = 0 then none else some (pc + len, l, .int (x / y) :: r) | _ => none)
  | .irem => (match st with | .int y :: .int x :: r => if y = 0 then none else some (pc + len, l, .int (x - x / y * y) :: r) | _ => none)
  | .ldiv => (match st with | .long y :: .long x :: r => if y = 0 then none else some (pc + len, l, .long (x / y) :: r) | _ => none)
  | .lrem => (match st with | .long y :: .long x :: r => if y = 0 then none else some (pc + len, l, .long (x - x / y * y) :: r) | _ => none)
  | .lshl => (match st with | .int y :: .long x :: r => some (pc + len, l, .long (x <<< (y.toInt64 &&& 63)) :: r) | _ => none)
  | .lshr => (match st with | .int y :: .long x :: r => some (pc + len, l, .long (x >>> (y.toInt64 &&& 63)) :: r) | _ => none)
  | .lushr => (match st with | .int y :: .long x :: r => some (pc + len, l, .long ((x.toUInt64 >>> (y.toInt64.toUInt64 &&& Int64.toUInt64 63)).toInt64) :: r) | _ => none)
  | .i2l => (match st with | .int x :: r => some (pc + len, l, .long (x.toInt64) :: r) | _ => none)
  | .l2i => (match st with | .long x :: r => some (pc + len, l, .int (x.toInt32) :: r) | _ => none)
  | .i2b => (match st with | .int x :: r => some (pc + len, l, .int (x.toInt8.toInt32) :: r) | _ => none)
  | .i2s => (match st with | .int x :: r => some (pc + len, l, .int (x.toInt16.toInt32) :: r) | _ => none)
  | .i2c => (match st with | .int x :: r => some (pc + len, l, .int ((x.toUInt32 % 65536).toInt32) :: r) | _ => none)
  | .ineg => (match st with | .int x :: r => some (pc + len, l, .int (-x) :: r) | _ => none)
  | .lneg => (match st with | .long x :: r => some (pc + len, l, .long (-x) :: r) | _ => none)
  | .lcmp => (match st with | .long y :: .long x :: r => some (pc + len, l, .int (lg_cmp x y) :: r) | _ => none)
  | .dup => (match st with | v :: r => if v.category = 1 then some (pc + len, l, v :: v :: r) else none | _ => none)
  | .pop => (match st with | v :: r => if v.category = 1 then some (pc + len, l, r) else none | _ => none)
  | .dup2 => (match st with | a :: r => if a.category = 2 then some (pc + len, l, a :: a :: r) else (match r with | b :: r => if a.category = 1 ∧ b.category = 1 then some (pc + len, l, a :: b :: a :: b :: r) else none | _ => none) | _ => none)
  | .pop2 => (match st with | a :: r => if a.category = 2 then some (pc + len, l, r) else none | _ => none)
  | .ifCond c off => (match st with | .int x :: r => q_br pc len off (q_c c x 0) l r | _ => none)
  | .if_icmp c off => (match st with | .int y :: .int x :: r => q_br pc len off (q_c c x y) l r | _ => none)
  | .goto off => q_to pc off l st
  | .tableswitch d lo hi offs => (match st with | .int x :: r => if x.toInt < lo ∨ hi < x.toInt then q_to pc d l r else (match offs[(x.toInt - lo).toNat]? with | some off => q_to pc off l r | none => none) | _ => none)
  | .lookupswitch d ps => (match st with | .int x :: r => if (ps.toList.zip (ps.toList.drop 1)).all (fun (a, next) => a.1 < next.1) = true then q_to pc (Op.lookupswitch.offset ps.toList d x.toInt) l r else none | _ => none)
  | _ => none
/-- the resolved instruction is what the bytes say (no links) -/
def q_ok1 (raw : Instr) (len : Nat) (i : Instr) : Bool := match i with
  | .iconst n => (match raw with | .iconst a => decide (a = n ∧ len = 1) | .bipush a => decide (a = n ∧ len = 2 ∧ (Int8.ofInt n).toInt32 = Int32.ofInt n) | .sipush a => decide (a = n ∧ len = 3 ∧ (Int16.ofInt n).toInt32 = Int32.ofInt n) | _ => false)
  | .goto_w n => (match raw with | .lconst a => decide (((a : Nat) : Int) = n ∧ len = 1) | _ => false)
  | .iload k => (match raw with | .iload a => decide (a = k ∧ len = 2) | .iload_n a => decide ((a : Nat) = k ∧ len = 1) | _ => false)
  | .lload k => (match raw with | .lload a => decide (a = k ∧ len = 2) | .lload_n a => decide ((a : Nat) = k ∧ len = 1) | _ => false)
  | .aload k => (match raw with | .aload a => decide (a = k ∧ len = 2) | .aload_n a => decide ((a : Nat) = k ∧ len = 1) | _ => false)
  | .istore k => (match raw with | .istore a => decide (a = k ∧ len = 2) | .istore_n a => decide ((a : Nat) = k ∧ len = 1) | _ => false)
  | .astore k => (match raw with | .astore a => decide (a = k ∧ len = 2) | .astore_n a => decide ((a : Nat) = k ∧ len = 1) | _ => false)
  | .lstore k => (match raw with | .lstore a => decide (a = k ∧ len = 2) | .lstore_n a => decide ((a : Nat) = k ∧ len = 1) | _ => false)
  | .iinc _ _ => decide (raw = i ∧ len = 3)
  | .iadd => decide (raw = i ∧ len = 1)
  | .isub => decide (raw = i ∧ len = 1)
  | .imul => decide (raw = i ∧ len = 1)
  | .iand => decide (raw = i ∧ len = 1)
  | .ior => decide (raw = i ∧ len = 1)
  | .ixor => decide (raw = i ∧ len = 1)
  | .ishl => decide (raw = i ∧ len = 1)
  | .ishr => decide (raw = i ∧ len = 1)
  | .iushr => decide (raw = i ∧ len = 1)
  | .ladd => decide (raw = i ∧ len = 1)
  | .lsub => decide (raw = i ∧ len = 1)
  | .lmul => decide (raw = i ∧ len = 1)
  | .land => decide (raw = i ∧ len = 1)
  | .lor => decide (raw = i ∧ len = 1)
  | .lxor => decide (raw = i ∧ len = 1)
  | .idiv => decide (raw = i ∧ len = 1)
  | .irem => decide (raw = i ∧ len = 1)
  | .ldiv => decide (raw = i ∧ len = 1)
  | .lrem => decide (raw = i ∧ len = 1)
  | .lshl => decide (raw = i ∧ len = 1)
  | .lshr => decide (raw = i ∧ len = 1)
  | .lushr => decide (raw = i ∧ len = 1)
  | .i2l => decide (raw = i ∧ len = 1)
  | .l2i => decide (raw = i ∧ len = 1)
  | .i2b => decide (raw = i ∧ len = 1)
  | .i2s => decide (raw = i ∧ len = 1)
  | .i2c => decide (raw = i ∧ len = 1)
  | .ineg => decide (raw = i ∧ len = 1)
  | .lneg => decide (raw = i ∧ len = 1)
  | .lcmp => decide (raw = i ∧ len = 1)
  | .dup => decide (raw = i ∧ len = 1)
  | .pop => decide (raw = i ∧ len = 1)
  | .dup2 => decide (raw = i ∧ len = 1)
  | .pop2 => decide (raw = i ∧ len = 1)
  | .ifCond _ _ => decide (raw = i ∧ len = 3)
  | .if_icmp _ _ => decide (raw = i ∧ len = 3)
  | .goto _ => decide (raw = i ∧ len = 3)
  | .tableswitch _ _ _ _ => decide (raw = i)
  | .lookupswitch _ _ => decide (raw = i)
  | _ => false
section QPURE
variable {p : Program} {l : Launch} {e : Env} {R : Room} {s : State} {m : MethodId} {args : Array Value} {below : List Frame} {meth : Method} {c : Code} {H : Heap} {locs : List Loc} {cells slots : Nat} {Q : State → Prop}
variable {cc : ByteArray} {pc : Nat} {ls : Array Slot}
theorem q_toW (l' : q_L) {off : Int} {lv lv' : q_L} {st st' : List Value} {pc' : Nat} (h : q_to pc off lv st = some (pc', lv', st')) : (pc : Int) + off = (pc' : Int) ∧ lv' = lv ∧ st' = st := by
  unfold q_to at h
  split at h
  · cases h
    exact ⟨by omega, rfl, rfl⟩
  · cases h
theorem q_brW {P : Prop} [Decidable P] {bs : Nat} {off : Int} {lv lv' : q_L} {r st' : List Value} {pc' : Nat} {G : Prop} (h : q_br pc 3 off (decide P) lv r = some (pc', lv', st'))
    (row : ∀ tgt : Nat, (pc : Int) + off = (tgt : Int) → (P → W p l e R s m args below meth c H locs cells slots Q (F0 m tgt ls (r.map (q_cv bs)))) → (¬ P → W p l e R s m args below meth c H locs cells slots Q (F0 m (pc + 3) ls (r.map (q_cv bs)))) → G)
    (kk : lv' = lv → W p l e R s m args below meth c H locs cells slots Q (F0 m pc' ls (st'.map (q_cv bs)))) : G := by
  unfold q_br at h
  by_cases h0 : 0 ≤ (pc : Int) + off
  · rw [if_pos h0] at h
    have h1 := Option.some.inj h
    have e1 : pc' = (if decide P = true then ((pc : Int) + off).toNat else pc + 3) := (congrArg Prod.fst h1).symm
    have e2 : lv' = lv := (congrArg (fun z => z.2.1) h1).symm
    have e3 : st' = r := (congrArg (fun z => z.2.2) h1).symm
    have K := kk e2
    rw [e3] at K
    refine row ((pc : Int) + off).toNat (by omega) (fun hp => ?_) (fun hp => ?_)
    · rw [e1, if_pos (decide_eq_true hp)] at K
      exact K
    · rw [e1, if_neg (by simpa using hp)] at K
      exact K
  · rw [if_neg h0] at h
    cases h
theorem q_pureW (hx : p.tables.exec = Jvm.exec) (hb : c.code = cc) {bs nL len : Nat} {raw i : Instr} {lv lv' : q_L} {st st' : List Value} {pc' : Nat} (hd : decode cc pc = .ok (raw, len)) (ho : q_ok1 raw len i = true) (hl : lv_has ls nL (q_cl bs lv))
    (h : q_pure nL pc len i lv st = some (pc', lv', st'))
    (kk : ∀ ls' : Array Slot, lv_has ls' nL (q_cl bs lv') → W p l e R s m args below meth c H locs cells slots Q (F0 m pc' ls' (st'.map (q_cv bs)))) : W p l e R s m args below meth c H locs cells slots Q (F0 m pc ls (st.map (q_cv bs))) := by
  unfold q_pure at h
  split at h
  · -- iconst
    simp only [q_ok1] at ho
    cases h
    split at ho
    · simp only [decide_eq_true_eq] at ho; obtain ⟨rfl, rfl⟩ := ho
      exact lv_iconst hx hb hd rfl (kk ls hl)
    · simp only [decide_eq_true_eq] at ho; obtain ⟨rfl, rfl, ho⟩ := ho
      exact lv_bipush hx hb hd ho (kk ls hl)
    · simp only [decide_eq_true_eq] at ho; obtain ⟨rfl, rfl, ho⟩ := ho
      exact lv_sipush hx hb hd ho (kk ls hl)
    · cases ho
  · -- goto_w: a long
    simp only [q_ok1] at ho
    cases h
    split at ho
    · simp only [decide_eq_true_eq] at ho; obtain ⟨rfl, rfl⟩ := ho
      exact lv_lconst hx hb hd (by simp [Int64.ofInt_eq_ofNat]) (kk ls hl)
    · cases ho
  · -- iload
    simp only [q_ok1] at ho
    split at h
    · rename_i hg
      cases h
      have hg2 := q_lv hl hg
      split at ho
      · simp only [decide_eq_true_eq] at ho; obtain ⟨rfl, rfl⟩ := ho
        exact lv_iload hx hb hd hg2 (kk ls hl)
      · simp only [decide_eq_true_eq] at ho; obtain ⟨ho, rfl⟩ := ho
        exact lv_iload_n hx hb hd ho hg2 (kk ls hl)
      · cases ho
    · cases h
  · -- lload
    simp only [q_ok1] at ho
    split at h
    · rename_i hg
      cases h
      have hg2 := q_lv hl hg
      split at ho
      · simp only [decide_eq_true_eq] at ho; obtain ⟨rfl, rfl⟩ := ho
        exact lv_lload hx hb hd hg2 (kk ls hl)
      · simp only [decide_eq_true_eq] at ho; obtain ⟨ho, rfl⟩ := ho
        exact lv_lload_n hx hb hd ho hg2 (kk ls hl)
      · cases ho
    · cases h
  · -- aload
    simp only [q_ok1] at ho
    split at h
    · rename_i hg
      cases h
      have hg2 := q_lv hl hg
      split at ho
      · simp only [decide_eq_true_eq] at ho; obtain ⟨rfl, rfl⟩ := ho
        exact lv_aload hx hb hd hg2 (kk ls hl)
      · simp only [decide_eq_true_eq] at ho; obtain ⟨ho, rfl⟩ := ho
        exact lv_aload_n hx hb hd ho hg2 (kk ls hl)
      · cases ho
    · rename_i hg
      cases h
      have hg2 := q_lv hl hg
      split at ho
      · simp only [decide_eq_true_eq] at ho; obtain ⟨rfl, rfl⟩ := ho
        exact lv_aload hx hb hd hg2 (kk ls hl)
      · simp only [decide_eq_true_eq] at ho; obtain ⟨ho, rfl⟩ := ho
        exact lv_aload_n hx hb hd ho hg2 (kk ls hl)
      · cases ho
    · cases h
  · -- istore
    simp only [q_ok1] at ho
    split at h
    · split at h
      · rename_i hk
        cases h
        split at ho
        · simp only [decide_eq_true_eq] at ho; obtain ⟨rfl, rfl⟩ := ho
          exact lv_istore hx hb hd hl hk (q_cl_s1 bs lv _ (.int _)) (fun ls' h' => kk ls' h')
        · simp only [decide_eq_true_eq] at ho; obtain ⟨ho, rfl⟩ := ho
          exact lv_istore_n hx hb hd ho hl hk (q_cl_s1 bs lv _ (.int _)) (fun ls' h' => kk ls' h')
        · cases ho
      · cases h
    · cases h
  · -- astore
    simp only [q_ok1] at ho
    split at h
    · split at h
      · rename_i hk
        cases h
        split at ho
        · simp only [decide_eq_true_eq] at ho; obtain ⟨rfl, rfl⟩ := ho
          exact lv_astore hx hb hd hl hk (q_cl_s1 bs lv _ (.ref _)) (fun ls' h' => kk ls' h')
        · simp only [decide_eq_true_eq] at ho; obtain ⟨ho, rfl⟩ := ho
          exact lv_astore_n hx hb hd ho hl hk (q_cl_s1 bs lv _ (.ref _)) (fun ls' h' => kk ls' h')
        · cases ho
      · cases h
    · cases h
  · -- lstore
    simp only [q_ok1] at ho
    split at h
    · split at h
      · rename_i hk
        cases h
        split at ho
        · simp only [decide_eq_true_eq] at ho; obtain ⟨rfl, rfl⟩ := ho
          exact lv_lstore hx hb hd hl hk (q_cl_s2 bs lv _ (.long _)) (fun ls' h' => kk ls' h')
        · simp only [decide_eq_true_eq] at ho; obtain ⟨ho, rfl⟩ := ho
          exact lv_lstore_n hx hb hd ho hl hk (q_cl_s2 bs lv _ (.long _)) (fun ls' h' => kk ls' h')
        · cases ho
      · cases h
    · cases h
  · -- iinc
    simp only [q_ok1, decide_eq_true_eq] at ho
    obtain ⟨rfl, rfl⟩ := ho
    split at h
    · rename_i hg
      split at h
      · rename_i hk
        cases h
        obtain ⟨j, hj⟩ := q_lvx (bs := bs) hg
        exact lv_iinc hx hb hd hl hj rfl hk (q_cl_s1 bs lv _ (.int _)) (fun ls' h' => kk ls' h')
      · cases h
    · cases h
  · -- iadd
    simp only [q_ok1, decide_eq_true_eq] at ho
    obtain ⟨rfl, rfl⟩ := ho
    split at h
    · cases h
      exact lv_iadd hx hb hd (kk ls hl)
    · cases h
  · -- isub
    simp only [q_ok1, decide_eq_true_eq] at ho
    obtain ⟨rfl, rfl⟩ := ho
    split at h
    · cases h
      exact lv_isub hx hb hd (kk ls hl)
    · cases h
  · -- imul
    simp only [q_ok1, decide_eq_true_eq] at ho
    obtain ⟨rfl, rfl⟩ := ho
    split at h
    · cases h
      exact lv_imul hx hb hd (kk ls hl)
    · cases h
  · -- iand
    simp only [q_ok1, decide_eq_true_eq] at ho
    obtain ⟨rfl, rfl⟩ := ho
    split at h
    · cases h
      exact lv_iand hx hb hd (kk ls hl)
    · cases h
  · -- ior
    simp only [q_ok1, decide_eq_true_eq] at ho
    obtain ⟨rfl, rfl⟩ := ho
    split at h
    · cases h
      exact lv_ior hx hb hd (kk ls hl)
    · cases h
  · -- ixor
    simp only [q_ok1, decide_eq_true_eq] at ho
    obtain ⟨rfl, rfl⟩ := ho
    split at h
    · cases h
      exact lv_ixor hx hb hd (kk ls hl)
    · cases h
  · -- ishl
    simp only [q_ok1, decide_eq_true_eq] at ho
    obtain ⟨rfl, rfl⟩ := ho
    split at h
    · cases h
      exact lv_ishl hx hb hd (kk ls hl)
    · cases h
  · -- ishr
    simp only [q_ok1, decide_eq_true_eq] at ho
    obtain ⟨rfl, rfl⟩ := ho
    split at h
    · cases h
      exact lv_ishr hx hb hd (kk ls hl)
    · cases h
  · -- iushr
    simp only [q_ok1, decide_eq_true_eq] at ho
    obtain ⟨rfl, rfl⟩ := ho
    split at h
    · cases h
      exact lv_iushr hx hb hd rfl (kk ls hl)
    · cases h
  · -- ladd
    simp only [q_ok1, decide_eq_true_eq] at ho
    obtain ⟨rfl, rfl⟩ := ho
    split at h
    · cases h
      exact lv_ladd hx hb hd (kk ls hl)
    · cases h
  · -- lsub
    simp only [q_ok1, decide_eq_true_eq] at ho
    obtain ⟨rfl, rfl⟩ := ho
    split at h
    · cases h
      exact lv_lsub hx hb hd (kk ls hl)
    · cases h
  · -- lmul
    simp only [q_ok1, decide_eq_true_eq] at ho
    obtain ⟨rfl, rfl⟩ := ho
    split at h
    · cases h
      exact lv_lmul hx hb hd (kk ls hl)
    · cases h
  · -- land
    simp only [q_ok1, decide_eq_true_eq] at ho
    obtain ⟨rfl, rfl⟩ := ho
    split at h
    · cases h
      exact lv_land hx hb hd (kk ls hl)
    · cases h
  · -- lor
    simp only [q_ok1, decide_eq_true_eq] at ho
    obtain ⟨rfl, rfl⟩ := ho
    split at h
    · cases h
      exact lv_lor hx hb hd (kk ls hl)
    · cases h
  · -- lxor
    simp only [q_ok1, decide_eq_true_eq] at ho
    obtain ⟨rfl, rfl⟩ := ho
    split at h
    · cases h
      exact lv_lxor hx hb hd (kk ls hl)
    · cases h
  · -- idiv
    simp only [q_ok1, decide_eq_true_eq] at ho
    obtain ⟨rfl, rfl⟩ := ho
    split at h
    · split at h
      · cases h
      · rename_i hne
        cases h
        exact lv_idiv hx hb hd hne (kk ls hl)
    · cases h
  · -- irem
    simp only [q_ok1, decide_eq_true_eq] at ho
    obtain ⟨rfl, rfl⟩ := ho
    split at h
    · split at h
      · cases h
      · rename_i hne
        cases h
        exact lv_irem hx hb hd hne (kk ls hl)
    · cases h
  · -- ldiv
    simp only [q_ok1, decide_eq_true_eq] at ho
    obtain ⟨rfl, rfl⟩ := ho
    split at h
    · split at h
      · cases h
      · rename_i hne
        cases h
        exact lv_ldiv hx hb hd hne (kk ls hl)
    · cases h
  · -- lrem
    simp only [q_ok1, decide_eq_true_eq] at ho
    obtain ⟨rfl, rfl⟩ := ho
    split at h
    · split at h
      · cases h
      · rename_i hne
        cases h
        exact lv_lrem hx hb hd hne (kk ls hl)
    · cases h
  · -- lshl
    simp only [q_ok1, decide_eq_true_eq] at ho
    obtain ⟨rfl, rfl⟩ := ho
    split at h
    · cases h
      exact lv_lshl hx hb hd rfl (kk ls hl)
    · cases h
  · -- lshr
    simp only [q_ok1, decide_eq_true_eq] at ho
    obtain ⟨rfl, rfl⟩ := ho
    split at h
    · cases h
      exact lv_lshr hx hb hd rfl (kk ls hl)
    · cases h
  · -- lushr
    simp only [q_ok1, decide_eq_true_eq] at ho
    obtain ⟨rfl, rfl⟩ := ho
    split at h
    · cases h
      exact lv_lushr hx hb hd rfl (kk ls hl)
    · cases h
  · -- i2l
    simp only [q_ok1, decide_eq_true_eq] at ho
    obtain ⟨rfl, rfl⟩ := ho
    split at h
    · cases h
      exact lv_i2l hx hb hd rfl (kk ls hl)
    · cases h
  · -- l2i
    simp only [q_ok1, decide_eq_true_eq] at ho
    obtain ⟨rfl, rfl⟩ := ho
    split at h
    · cases h
      exact lv_l2i hx hb hd rfl (kk ls hl)
    · cases h
  · -- i2b
    simp only [q_ok1, decide_eq_true_eq] at ho
    obtain ⟨rfl, rfl⟩ := ho
    split at h
    · cases h
      exact lv_i2b hx hb hd rfl (kk ls hl)
    · cases h
  · -- i2s
    simp only [q_ok1, decide_eq_true_eq] at ho
    obtain ⟨rfl, rfl⟩ := ho
    split at h
    · cases h
      exact lv_i2s hx hb hd rfl (kk ls hl)
    · cases h
  · -- i2c
    simp only [q_ok1, decide_eq_true_eq] at ho
    obtain ⟨rfl, rfl⟩ := ho
    split at h
    · cases h
      exact lv_i2c hx hb hd rfl (kk ls hl)
    · cases h
  · -- ineg
    simp only [q_ok1, decide_eq_true_eq] at ho
    obtain ⟨rfl, rfl⟩ := ho
    split at h
    · cases h
      exact lv_ineg hx hb hd (kk ls hl)
    · cases h
  · -- lneg
    simp only [q_ok1, decide_eq_true_eq] at ho
    obtain ⟨rfl, rfl⟩ := ho
    split at h
    · cases h
      exact lv_lneg hx hb hd (kk ls hl)
    · cases h
  · -- lcmp
    simp only [q_ok1, decide_eq_true_eq] at ho
    obtain ⟨rfl, rfl⟩ := ho
    split at h
    · cases h
      exact W.lcmp hx hb hd (kk ls hl)
    · cases h
  · -- dup
    simp only [q_ok1, decide_eq_true_eq] at ho
    obtain ⟨rfl, rfl⟩ := ho
    split at h
    · split at h
      · rename_i hc
        cases h
        exact lv_dup hx hb hd (by rw [q_cv_cat]; exact hc) (kk ls hl)
      · cases h
    · cases h
  · -- pop
    simp only [q_ok1, decide_eq_true_eq] at ho
    obtain ⟨rfl, rfl⟩ := ho
    split at h
    · split at h
      · rename_i hc
        cases h
        exact lv_pop hx hb hd (by rw [q_cv_cat]; exact hc) (kk ls hl)
      · cases h
    · cases h
  · -- dup2
    simp only [q_ok1, decide_eq_true_eq] at ho
    obtain ⟨rfl, rfl⟩ := ho
    split at h
    · split at h
      · rename_i hc
        cases h
        exact lv_dup2_2 hx hb hd (by rw [q_cv_cat]; exact hc) (kk ls hl)
      · split at h
        · split at h
          · rename_i hc
            cases h
            exact lv_dup2_11 hx hb hd (by rw [q_cv_cat]; exact hc.1) (by rw [q_cv_cat]; exact hc.2) (kk ls hl)
          · cases h
        · cases h
    · cases h
  · -- pop2
    simp only [q_ok1, decide_eq_true_eq] at ho
    obtain ⟨rfl, rfl⟩ := ho
    split at h
    · split at h
      · rename_i hc
        cases h
        exact lv_pop2_2 hx hb hd (by rw [q_cv_cat]; exact hc) (kk ls hl)
      · cases h
    · cases h
  · -- ifCond
    simp only [q_ok1, decide_eq_true_eq] at ho
    obtain ⟨rfl, rfl⟩ := ho
    split at h
    · rename_i cd off _ x r
      cases cd <;> simp only [q_c] at h
      · exact q_brW h (fun t ht k1 k2 => lv_if_eq hx hb hd ht k1 k2) (fun q => kk ls (q ▸ hl))
      · exact q_brW h (fun t ht k1 k2 => lv_if_ne hx hb hd ht k1 (fun a => k2 (fun b => b a))) (fun q => kk ls (q ▸ hl))
      · exact q_brW h (fun t ht k1 k2 => lv_if_lt hx hb hd ht k1 k2) (fun q => kk ls (q ▸ hl))
      · exact q_brW h (fun t ht k1 k2 => lv_if_ge hx hb hd ht k1 k2) (fun q => kk ls (q ▸ hl))
      · exact q_brW h (fun t ht k1 k2 => lv_if_gt hx hb hd ht k1 k2) (fun q => kk ls (q ▸ hl))
      · exact q_brW h (fun t ht k1 k2 => lv_if_le hx hb hd ht k1 k2) (fun q => kk ls (q ▸ hl))
    · cases h
  · -- if_icmp
    simp only [q_ok1, decide_eq_true_eq] at ho
    obtain ⟨rfl, rfl⟩ := ho
    split at h
    · rename_i cd off _ y x r
      cases cd <;> simp only [q_c] at h
      · exact q_brW h (fun t ht k1 k2 => lv_icmp_eq hx hb hd ht k1 k2) (fun q => kk ls (q ▸ hl))
      · exact q_brW h (fun t ht k1 k2 => lv_icmp_ne hx hb hd ht k1 (fun a => k2 (fun b => b a))) (fun q => kk ls (q ▸ hl))
      · exact q_brW h (fun t ht k1 k2 => lv_icmp_lt hx hb hd ht k1 k2) (fun q => kk ls (q ▸ hl))
      · exact q_brW h (fun t ht k1 k2 => lv_icmp_ge hx hb hd ht k1 k2) (fun q => kk ls (q ▸ hl))
      · exact q_brW h (fun t ht k1 k2 => lv_icmp_gt hx hb hd ht k1 k2) (fun q => kk ls (q ▸ hl))
      · exact q_brW h (fun t ht k1 k2 => lv_icmp_le hx hb hd ht k1 k2) (fun q => kk ls (q ▸ hl))
    · cases h
  · -- goto
    simp only [q_ok1, decide_eq_true_eq] at ho
    obtain ⟨rfl, rfl⟩ := ho
    obtain ⟨ht, rfl, rfl⟩ := q_toW lv h
    exact lv_goto hx hb hd ht (kk ls hl)
  · -- tableswitch
    simp only [q_ok1, decide_eq_true_eq] at ho
    obtain rfl := ho
    split at h
    · split at h
      · rename_i hc
        obtain ⟨ht, rfl, rfl⟩ := q_toW lv h
        exact lv_tableOut hx hb hd hc ht (kk ls hl)
      · rename_i hc
        split at h
        · rename_i hoff
          obtain ⟨ht, rfl, rfl⟩ := q_toW lv h
          exact lv_tableIn hx hb hd (fun q => hc (Or.inl q)) (fun q => hc (Or.inr q)) hoff ht (kk ls hl)
        · cases h
    · cases h
  · -- lookupswitch
    simp only [q_ok1, decide_eq_true_eq] at ho
    obtain rfl := ho
    split at h
    · split at h
      · rename_i hc
        obtain ⟨ht, rfl, rfl⟩ := q_toW lv h
        exact lv_lookup hx hb hd hc rfl ht (kk ls hl)
      · cases h
    · cases h
  · cases h
end QPURE
end
section
/-! THE PROGRAM's DATA: the tables' words, the classes, the arrays' types, the methods, the links to private members of nest mates -/
abbrev q_I : Type := Nat × Instr × Nat × Instr × Nat
abbrev q_MI : Type := MethodName × ByteArray × Nat × Option FieldType × List q_I × (Nat × Nat × Nat × Nat) × (Nat × Nat × Nat × Nat)
/-- a text constant: whose, its number, the text, its bytes -/
abbrev q_Sx : Type := String × Nat × String × List Int32
abbrev q_G : Type := List (List Cond) × List vw_C × (Nat → Nat → FieldType) × List FieldType × List q_MI × List (String × Nat × MethodName × String) × List q_Sx
def q_gT (G : q_G) : List (List Cond) := G.1
def q_tat (G : q_G) (pos : Nat) : Option Cond := match (q_gT G)[pos / 1000]? with
  | some l => l[pos % 1000]?
  | none => none
def q_gC (G : q_G) : List vw_C := G.2.1
def q_gY (G : q_G) : Nat → Nat → FieldType := G.2.2.1
def q_gA (G : q_G) : List FieldType := G.2.2.2.1
def q_gM (G : q_G) : List q_MI := G.2.2.2.2.1
def q_gN (G : q_G) : List (String × Nat × MethodName × String) := G.2.2.2.2.2.1
def q_gS (G : q_G) : List q_Sx := G.2.2.2.2.2.2
def q_T (G : q_G) : List Cond := (q_gT G).flatten.filter goodWord
theorem q_T_at {G : q_G} {pos : Nat} {w : Cond} (h : q_tat G pos = some w) (hg : goodWord w = true) : w ∈ q_T G := by
  unfold q_tat at h
  split at h
  · rename_i l hl
    exact List.mem_filter.mpr ⟨List.mem_flatten.mpr ⟨l, List.mem_of_getElem? hl, List.mem_of_getElem? h⟩, hg⟩
  · cases h
def q_tyl (G : q_G) (tc : Nat → ClassId) : List (ClassId × FieldType) := (q_gA G).mapIdx (fun t ty => (tc t, ty))
theorem q_tyl_get {G : q_G} {tc : Nat → ClassId} {t : Nat} {ty : FieldType} (h : (q_gA G)[t]? = some ty) : (q_tyl G tc)[t]? = some (tc t, ty) := by simp [q_tyl, h]
def q_sys : List Cond := [.native arraycopyName, .static arraycopyName, .initialized "java/lang/System", .instanceMethod Lib.objectInit, .code Lib.objectInit ⟨#[0xb1]⟩ 1 none]
def q_GV (G : q_G) : Prop := (∀ (ci : Nat) (C : String) (T : u_T) (N : Nat), (q_gC G)[ci]? = some (C, T, N) → (∀ w ∈ u_ws C T N, w ∈ q_T G) ∧ (∀ k, k < N → parseFieldDescriptor (T k).2.2.1 = some (q_gY G ci k)) ∧ (∀ a, a < N → ∀ b, b < N → a ≠ b → (T a).2.1 ≠ (T b).2.1) ∧ Cond.instantiable C N ∈ q_T G ∧ Cond.initialized C ∈ q_T G) ∧ (∀ w ∈ q_sys, w ∈ q_T G)
def q_tag (a : ArrayType) : Nat := match a with
  | .int => 0
  | .long => 1
  | .byte => 2
  | .boolean => 3
  | _ => 99
def q_cats (r : List Value) : Nat := (r.map fun v => v.category).sum
theorem q_cats_cv (bs : Nat) (r : List Value) : ((r.map (q_cv bs)).map fun v => v.category).sum = q_cats r := by
  simp only [q_cats, List.map_map]
  congr 1
  apply List.map_congr_left
  intro v _
  exact q_cv_cat bs v
def q_cpy (r : List Value) (m : q_M) (j k sp dp w : Nat) : Option (List Value × q_M) := match m[j]?, m[k]? with
  | some (.inl (t0, n0, .inl f)), some (.inl (t1, n1, .inl g)) => if t0 = 0 ∧ t1 = 0 ∧ sp + w ≤ n0 ∧ dp + w ≤ n1 then some (r, m.set k (.inl (t1, n1, .inl (va_cpy f g sp dp w)))) else none
  | some (.inl (t0, n0, .inr (.inl f))), some (.inl (t1, n1, .inr (.inl g))) => if t0 = 1 ∧ t1 = 1 ∧ sp + w ≤ n0 ∧ dp + w ≤ n1 then some (r, m.set k (.inl (t1, n1, .inr (.inl (va_cpy f g sp dp w))))) else none
  | _, _ => none
def q_copy (fr lo : Nat) (st : List Value) (m : q_M) : Option (List Value × q_M) := match st with
  | .int w :: .int dp :: .ref k :: .int sp :: .ref j :: r => if 1 ≤ fr ∧ q_cats r + 18 ≤ lo ∧ ¬ sp < 0 ∧ ¬ dp < 0 ∧ ¬ w < 0 then q_cpy r m j k sp.toNatClampNeg dp.toNatClampNeg w.toNatClampNeg else none
  | _ => none
/-- reading and writing cells: the stack and the memory behind it -/
def q_mem (G : q_G) (fr lo : Nat) (i : Instr) (st : List Value) (m : q_M) : Option (List Value × q_M) := match i with
  | .getfield n => (match st with | .ref k :: r => (match m[k]? with | some (.inr (ci, fs)) => if ci = n / 64 then (match fs[n % 64]? with | some v => some (v :: r, m) | none => none) else none | _ => none) | _ => none)
  | .putfield n => (match st with | v :: .ref k :: r => (match m[k]? with | some (.inr (ci, fs)) => if ci = n / 64 ∧ n % 64 < fs.length ∧ narrow (q_gY G ci (n % 64)) v = v ∧ fits (q_gY G ci (n % 64)) v = true then some (r, m.set k (.inr (ci, fs.set (n % 64) v))) else none | _ => none) | _ => none)
  | .iaload => (match st with | .int j :: .ref k :: r => (match m[k]? with | some (.inl (t, n, .inl f)) => if t = 0 ∧ q_in j n = true then some (.int (f j.toNatClampNeg) :: r, m) else none | _ => none) | _ => none)
  | .laload => (match st with | .int j :: .ref k :: r => (match m[k]? with | some (.inl (t, n, .inr (.inl f))) => if t = 1 ∧ q_in j n = true then some (.long (f j.toNatClampNeg) :: r, m) else none | _ => none) | _ => none)
  | .baload => (match st with | .int j :: .ref k :: r => (match m[k]? with | some (.inl (t, n, .inl f)) => if (t = 2 ∨ t = 3) ∧ q_in j n = true then some (.int (f j.toNatClampNeg) :: r, m) else none | _ => none) | _ => none)
  | .aaload => (match st with | .int j :: .ref k :: r => (match m[k]? with | some (.inl (t, n, .inr (.inr f))) => if 4 ≤ t ∧ q_in j n = true ∧ t < (q_gA G).length then some (va_rf (f j.toNatClampNeg) :: r, m) else none | _ => none) | _ => none)
  | .iastore => (match st with | .int x :: .int j :: .ref k :: r => (match m[k]? with | some (.inl (t, n, .inl f)) => if t = 0 ∧ q_in j n = true then some (r, m.set k (.inl (t, n, .inl (upd f j.toNatClampNeg x)))) else none | _ => none) | _ => none)
  | .lastore => (match st with | .long x :: .int j :: .ref k :: r => (match m[k]? with | some (.inl (t, n, .inr (.inl f))) => if t = 1 ∧ q_in j n = true then some (r, m.set k (.inl (t, n, .inr (.inl (vp_updL f j.toNatClampNeg x))))) else none | _ => none) | _ => none)
  | .bastore => (match st with | .int x :: .int j :: .ref k :: r => (match m[k]? with | some (.inl (t, n, .inl f)) => if t = 2 ∧ q_in j n = true then some (r, m.set k (.inl (t, n, .inl (upd f j.toNatClampNeg (vp_nar .byte x))))) else if t = 3 ∧ q_in j n = true then some (r, m.set k (.inl (t, n, .inl (upd f j.toNatClampNeg (vp_nar .boolean x))))) else none | _ => none) | _ => none)
  | .aastore => (match st with | .ref v :: .int j :: .ref k :: r => (match m[k]? with | some (.inl (t, n, .inr (.inr f))) => (match m[v]? with | some (.inr (ci, _)) => if 4 ≤ t ∧ q_in j n = true ∧ ((q_gC G)[ci]?.map fun z => FieldType.object z.1) = (q_gA G)[t]? ∧ ((q_gA G)[t]?).isSome = true then some (r, m.set k (.inl (t, n, .inr (.inr (va_up f j.toNatClampNeg (some v)))))) else none | _ => none) | _ => none) | _ => none)
  | .arraylength => (match st with | .ref k :: r => (match m[k]? with | some (.inl (t, n, _)) => if t < (q_gA G).length then some (.int (Int32.ofNat n) :: r, m) else none | _ => none) | _ => none)
  | .invokedynamic n => if n = 0 then (match st with | .ref _ :: r => if 1 ≤ fr ∧ q_cats r + 12 ≤ lo then some (r, m) else none | _ => none)
      else if n = 1 then q_copy fr lo st m
      else if n = 2 then (match st with | .retAddr (a + 1) :: r => (match (q_gS G)[a]? with | some x => if 5 ≤ fr ∧ q_cats r ≤ 8 ∧ 120 ≤ lo then some (.int (Int32.ofNat x.2.2.2.length) :: r, m) else none | none => none) | _ => none)
      else if n = 3 then (match st with | .int j :: .retAddr (a + 1) :: r => (match (q_gS G)[a]? with | some x => if 5 ≤ fr ∧ q_cats r ≤ 8 ∧ 120 ≤ lo ∧ q_in j x.2.2.2.length = true then some (.int (x.2.2.2.getD j.toNatClampNeg 0 &&& 255) :: r, m) else none | none => none) | _ => none)
      else none
  | _ => none
/-- making cells: the stack, and the new cell -/
def q_new (G : q_G) (i : Instr) (st : List Value) (m : q_M) : Option (List Value × q_E) := match i with
  | .new ci => (match (q_gC G)[ci]? with | some (_, _, N) => some (.ref m.length :: st, .inr (ci, (List.range N).map (fun k => defaultValue (q_gY G ci k)))) | none => none)
  | .newarray a => (match st with | .int w :: r => if ¬ w < 0 ∧ w.toNatClampNeg ≤ 60000000 ∧ q_tag a < 4 then some (.ref m.length :: r, .inl (q_tag a, w.toNatClampNeg, if a = .long then .inr (.inl (fun _ => 0)) else .inl (fun _ => 0))) else none | _ => none)
  | .anewarray t => (match st with | .int w :: r => if ¬ w < 0 ∧ w.toNatClampNeg ≤ 60000000 then some (.ref m.length :: r, .inl (t, w.toNatClampNeg, .inr (.inr (fun _ => none)))) else none | _ => none)
  | _ => none
def q_sLen : MethodName := ⟨"java/lang/String", "length", "()I"⟩
def q_sChr : MethodName := ⟨"java/lang/String", "charAt", "(I)C"⟩
/-- the resolved instruction is what the bytes and the links say -/
def q_ok2 (G : q_G) (own : String) (kd : Nat) (raw : Instr) (len : Nat) (i : Instr) (pos : Nat) : Bool := match i with
  | .getfield n => (match raw with | .getfield x => (match (q_gC G)[n / 64]? with | some (C, T, N) => decide (len = 3 ∧ n % 64 < N ∧ (T (n % 64)).1 = C ∧ q_tat G pos = some (.fieldLink own x C (T (n % 64)).2.1 (T (n % 64)).2.2.1)) | none => false) | _ => false)
  | .putfield n => (match raw with | .putfield x => (match (q_gC G)[n / 64]? with | some (C, T, N) => decide (len = 3 ∧ n % 64 < N ∧ (T (n % 64)).1 = C ∧ ((T (n % 64)).2.2.2 = false ∨ (kd = 2 ∧ C = own)) ∧ q_tat G pos = some (.fieldLink own x C (T (n % 64)).2.1 (T (n % 64)).2.2.1)) | none => false) | _ => false)
  | .iaload => decide (raw = i ∧ len = 1 ∧ (q_gA G)[0]? = some .int)
  | .laload => decide (raw = i ∧ len = 1 ∧ (q_gA G)[1]? = some .long)
  | .baload => decide (raw = i ∧ len = 1 ∧ (q_gA G)[2]? = some .byte ∧ (q_gA G)[3]? = some .boolean)
  | .aaload => decide (raw = i ∧ len = 1 ∧ ((q_gA G).drop 4).all (fun z => match z with | .object _ => true | _ => false) = true ∧ 4 < (q_gA G).length)
  | .iastore => decide (raw = i ∧ len = 1 ∧ (q_gA G)[0]? = some .int)
  | .lastore => decide (raw = i ∧ len = 1 ∧ (q_gA G)[1]? = some .long)
  | .bastore => decide (raw = i ∧ len = 1 ∧ (q_gA G)[2]? = some .byte ∧ (q_gA G)[3]? = some .boolean)
  | .aastore => decide (raw = i ∧ len = 1)
  | .arraylength => decide (raw = i ∧ len = 1)
  | .invokedynamic n => (match raw with
      | .invokespecial x => decide (n = 0 ∧ len = 3 ∧ q_tat G pos = some (.methodLink own x Lib.objectInit))
      | .invokestatic x => decide (n = 1 ∧ len = 3 ∧ (q_gA G)[0]? = some .int ∧ (q_gA G)[1]? = some .long ∧ q_tat G pos = some (.methodLink own x arraycopyName))
      | .invokevirtual x => decide (len = 3 ∧ ((n = 2 ∧ q_tat G pos = some (.methodLink own x q_sLen)) ∨ (n = 3 ∧ q_tat G pos = some (.methodLink own x q_sChr))))
      | _ => false)
  | _ => false
def q_ok3 (G : q_G) (own : String) (raw : Instr) (len : Nat) (i : Instr) (pos : Nat) : Bool := match i with
  | .new ci => (match raw with | .new x => (match (q_gC G)[ci]? with | some (C, _, _) => decide (len = 3 ∧ q_tat G pos = some (.classLink own x C)) | none => false) | _ => false)
  | .newarray a => decide (raw = i ∧ len = 2 ∧ q_tat G pos = some (.arrayClass (Op.newarray.typeOf a)) ∧ (q_gA G)[q_tag a]? = some (Op.newarray.typeOf a))
  | .anewarray t => (match raw with | .anewarray x => (match q_tat G pos with | some (.classLink o y C) => decide (len = 3 ∧ o = own ∧ y = x ∧ (q_gA G)[t]? = some (.object C)) | _ => false) | _ => false)
  | _ => false
/-- constants out of the pool -/
def q_ok5 (G : q_G) (own : String) (raw : Instr) (len : Nat) (i : Instr) (pos : Nat) : Bool := match i with
  | .sipush n => (match raw with | .ldc x => decide (len = 2 ∧ q_tat G pos = some (.constant own x (Int32.ofInt n))) | .ldc_w x => decide (len = 3 ∧ q_tat G pos = some (.constant own x (Int32.ofInt n))) | _ => false)
  | .jsr_w n => (match raw with | .ldc2_w x => decide (len = 3 ∧ q_tat G pos = some (.constantLong own x (Int64.ofInt n))) | _ => false)
  | .ldc n => (match raw with | .ldc x => (match (q_gS G)[n]? with | some z => decide (len = 2 ∧ z.1 = own ∧ z.2.1 = x) | none => false) | _ => false)
  | _ => false
def q_lk (i : Instr) (st : List Value) : Option (List Value) := match i with
  | .sipush n => some (.int (Int32.ofInt n) :: st)
  | .jsr_w n => some (.long (Int64.ofInt n) :: st)
  | .ldc n => some (.retAddr (n + 1) :: st)
  | _ => none
/-- what kind of step: 0 pure, 1 memory, 2 a new cell, 3 call or return, 4 a constant out of the pool -/
def q_grp (i : Instr) : Nat := match i with
  | .getfield _ => 1
  | .putfield _ => 1
  | .iaload => 1
  | .laload => 1
  | .baload => 1
  | .aaload => 1
  | .iastore => 1
  | .lastore => 1
  | .bastore => 1
  | .aastore => 1
  | .arraylength => 1
  | .invokedynamic _ => 1
  | .new _ => 2
  | .newarray _ => 2
  | .anewarray _ => 2
  | .ireturn => 3
  | .lreturn => 3
  | .return_ => 3
  | .invokevirtual _ => 3
  | .invokestatic _ => 3
  | .invokespecial _ => 3
  | .sipush _ => 4
  | .jsr_w _ => 4
  | .ldc _ => 4
  | _ => 0
def q_mY (M : q_MI) : MethodName := M.1
def q_mB (M : q_MI) : ByteArray := M.2.1
def q_mL (M : q_MI) : Nat := M.2.2.1
def q_mR (M : q_MI) : Option FieldType := M.2.2.2.1
def q_mC (M : q_MI) : List q_I := M.2.2.2.2.1
def q_mF (M : q_MI) : Nat := M.2.2.2.2.2.1.1
def q_mO (M : q_MI) : Nat := M.2.2.2.2.2.1.2.1
def q_mN (M : q_MI) : Nat := M.2.2.2.2.2.1.2.2.1
def q_mK (M : q_MI) : Nat := M.2.2.2.2.2.1.2.2.2
def q_mP (M : q_MI) : Nat × Nat × Nat × Nat := M.2.2.2.2.2.2
def q_lnk (G : q_G) (own : String) (x : Nat) (y : MethodName) (pos : Nat) : Bool := if pos < 100000 then decide (q_tat G pos = some (.methodLink own x y)) else (match (q_gN G)[pos - 100000]? with | some z => decide (z.1 = own ∧ z.2.1 = x ∧ z.2.2.1 = y) | none => false)
def q_ok4 (G : q_G) (own : String) (raw : Instr) (len : Nat) (i : Instr) (pos : Nat) : Bool := match i with
  | .ireturn => decide (raw = i ∧ len = 1)
  | .lreturn => decide (raw = i ∧ len = 1)
  | .return_ => decide (raw = i ∧ len = 1)
  | .invokevirtual k => (match raw with | .invokevirtual x => (match (q_gM G)[k]? with | some M => decide (len = 3 ∧ q_mK M = 0 ∧ q_tat G pos = some (.methodLink own x (q_mY M))) | none => false) | _ => false)
  | .invokestatic k => (match raw with | .invokestatic x => (match (q_gM G)[k]? with | some M => decide (len = 3 ∧ q_mK M = 1 ∧ q_lnk G own x (q_mY M) pos = true) | none => false) | _ => false)
  | .invokespecial k => (match raw with | .invokespecial x => (match (q_gM G)[k]? with | some M => decide (len = 3 ∧ q_mK M = 2 ∧ q_lnk G own x (q_mY M) pos = true) | none => false) | _ => false)
  | _ => false
def q_okI (G : q_G) (own : String) (kd : Nat) (I : q_I) : Bool := match q_grp I.2.2.2.1 with
  | 0 => q_ok1 I.2.1 I.2.2.1 I.2.2.2.1
  | 1 => q_ok2 G own kd I.2.1 I.2.2.1 I.2.2.2.1 I.2.2.2.2
  | 2 => q_ok3 G own I.2.1 I.2.2.1 I.2.2.2.1 I.2.2.2.2
  | 3 => q_ok4 G own I.2.1 I.2.2.1 I.2.2.2.1 I.2.2.2.2
  | _ => q_ok5 G own I.2.1 I.2.2.1 I.2.2.2.1 I.2.2.2.2
def q_okC (G : q_G) (M : q_MI) : Bool := (q_mC M).all (fun I => decide (decode (q_mB M) I.1 = .ok (I.2.1, I.2.2.1)) && q_okI G (q_mY M).cls (q_mK M) I)
def q_okH (G : q_G) (M : q_MI) : Bool := plainFor (q_mY M) && decide ((q_mY M).cls ≠ "java/lang/invoke/MethodHandle" ∧ (q_mY M).cls ≠ "java/lang/invoke/VarHandle" ∧ (parseMethodDescriptor (q_mY M).desc).map (fun d => d.parameters.length) = some (q_mN M))
  && decide (q_tat G (q_mP M).1 = some (.code (q_mY M) (q_mB M) (q_mL M) (q_mR M))) && decide (q_tat G (q_mP M).2.2.2 = some (.initialized (q_mY M).cls))
  && (match q_mK M with
    | 0 => decide (q_tat G (q_mP M).2.1 = some (.instanceMethod (q_mY M)) ∧ q_tat G (q_mP M).2.2.1 = some (.selects (q_mY M).cls (q_mY M) (q_mY M)))
    | 1 => decide (q_tat G (q_mP M).2.1 = some (.static (q_mY M)))
    | _ => decide (q_tat G (q_mP M).2.1 = some (.instanceMethod (q_mY M)) ∧ (q_mY M).name = "<init>" ∧ q_mR M = none))
def q_okM (G : q_G) (M : q_MI) : Prop := q_okH G M = true ∧ q_okC G M = true
def q_fd (C : List q_I) (pc : Nat) : Option q_I := match C with
  | [] => none
  | I :: C => if I.1 = pc then some I else q_fd C pc
theorem q_fd_mem : ∀ {C : List q_I} {pc : Nat} {I : q_I}, q_fd C pc = some I → I ∈ C ∧ I.1 = pc
  | [], pc, I, h => by simp [q_fd] at h
  | J :: C, pc, I, h => by
    unfold q_fd at h
    split at h
    · cases h
      exact ⟨List.mem_cons_self, by assumption⟩
    · exact ⟨List.mem_cons_of_mem _ (q_fd_mem h).1, (q_fd_mem h).2⟩
def q_na (M : q_MI) : Nat := match q_mK M with
  | 1 => q_mN M
  | _ => q_mN M + 1
def q_rcv (G : q_G) (M : q_MI) (as : List Value) (m : q_M) : Bool := match q_mK M with
  | 1 => true
  | 0 => (match as with | .ref a :: _ => (match m[a]? with | some (.inr (ci, _)) => decide ((q_gC G)[ci]?.map (fun z => z.1) = some (q_mY M).cls) | _ => false) | _ => false)
  | _ => (match as with | .ref _ :: _ => true | _ => false)
/-- a call: the method, its arguments (the object first), what stays on the stack -/
def q_call (G : q_G) (M : q_MI) (k : Nat) (st : List Value) (m : q_M) : Option (q_MI × List Value × List Value) := match (q_gM G)[k]? with
  | none => none
  | some M1 => if q_na M1 ≤ st.length ∧ q_cats (st.drop (q_na M1)) ≤ 8 ∧ q_mF M1 + 1 ≤ q_mF M ∧ 8 + (q_mL M1 + 11) + q_mO M1 ≤ q_mO M ∧ q_cats (st.take (q_na M1)) ≤ q_mL M1 ∧ q_rcv G M1 (st.take (q_na M1)).reverse m = true
    then some (M1, (st.take (q_na M1)).reverse, st.drop (q_na M1)) else none
/-- what a method gives back, by its last instruction -/
def q_retn (M : q_MI) (i : Instr) (st : List Value) : Option (Option Value) := match i with
  | .ireturn => (match st with | [.int v] => (match q_mR M with | some ty => if narrow ty (.int v) = .int v then some (some (.int v)) else none | none => none) | _ => none)
  | .lreturn => (match st with | [.long v] => if q_mR M = some .long then some (some (.long v)) else none | _ => none)
  | .return_ => (match st with | [] => if q_mR M = none then some none else none | _ => none)
  | _ => none
def q_cnum (i : Instr) : Option Nat := match i with
  | .invokevirtual k => some k
  | .invokestatic k => some k
  | .invokespecial k => some k
  | _ => none
/-- the pure machine: n steps at most, calls and all -/
def q_run (G : q_G) : Nat → q_MI → Nat → q_L → List Value → q_M → Option (Option Value × q_M)
  | 0, _, _, _, _, _ => none
  | n + 1, M, pc, l, st, m => match q_fd (q_mC M) pc with
    | none => none
    | some (_, _, len, i, _) => match q_grp i with
      | 0 => (match q_pure (q_mL M) pc len i l st with | some (pc1, l1, st1) => q_run G n M pc1 l1 st1 m | none => none)
      | 1 => (match q_mem G (q_mF M) (q_mO M) i st m with | some (st1, m1) => q_run G n M (pc + len) l st1 m1 | none => none)
      | 2 => (match q_new G i st m with | some (st1, x) => q_run G n M (pc + len) l st1 (m ++ [x]) | none => none)
      | 3 => (match q_cnum i with
          | some k => (match q_call G M k st m with
              | some (M1, as, rest) => (match q_run G n M1 0 (lv_args 0 as) [] m with | some (r, m1) => q_run G n M (pc + len) l (r.toList ++ rest) m1 | none => none)
              | none => none)
          | none => (match q_retn M i st with | some r => some (r, m) | none => none))
      | _ => (match q_lk i st with | some st1 => q_run G n M (pc + len) l st1 m | none => none)
end
section
section QMEM
variable {p : Program} {l : Launch} {e : Env} {R : Room} {s : State} {m : MethodId} {args : Array Value} {below : List Frame} {meth : Method} {c : Code} {H : Heap} {locs : List Loc} {cells slots : Nat} {Q : State → Prop}
variable {cc : ByteArray} {pc : Nat} {ls : Array Slot} {G : q_G} {D : va_G} {bs : Nat} {tc : Nat → ClassId}
theorem q_sized {g : JFrame} (k : H.size ≤ s.heap.size + cells → W p l e R s m args below meth c H locs cells slots Q g) : W p l e R s m args below meth c H locs cells slots Q g := fun T hT X => k (by rw [← hT]; exact X.heapSize) T hT X
theorem q_low {cl : List vw_C} {q q0 : q_M} {H0 : Heap} (hw : va_P D cl (q_cw bs tc q) H) (hS : va_S (fun z => bs ≤ z) H0 H locs) (h0 : H0.size = bs + q0.length) : bs + q.length ≤ H.size := by
  by_cases hq : q.length = 0
  · have := hS.1
    omega
  · have hk : q.length - 1 < q.length := by omega
    have h1 := (hw (q.length - 1) _ (q_cw_get (bs := bs) (tc := tc) (List.getElem?_eq_getElem hk))).lt
    simp only at h1
    omega
theorem q_Wset {cl : List vw_C} {q : q_M} {k : Nat} {x : q_E} (h : va_P D cl ((q_cw bs tc q).set k (bs + k, q_ce bs tc x)) H) : q_Wd D cl bs tc (q.set k x) H := by
  rw [q_cw_set] at h
  exact h
theorem q_memW (hx : p.tables.exec = Jvm.exec) (hb : c.code = cc) (hml : c.maxLocals = ls.size) (hV : q_GV G) {own : String} {kd : Nat} (hown : s.vm.findClass own = some m.cls) (hts : ∀ w ∈ q_T G, w.before args s = true) (hK : va_K D (q_gC G) (q_tyl G tc) s) (hini : kd = 2 → meth.name = "<init>")
    {len pos : Nat} {raw i : Instr} {st st' : List Value} {q q' : q_M} (hd : decode cc pc = .ok (raw, len)) (ho : q_ok2 G own kd raw len i pos = true)
    (hw : q_Wd D (q_gC G) bs tc q H) (hS : va_S (fun z => bs ≤ z) s.heap H locs)
    (h : q_mem G R.frames R.locals i st q = some (st', q'))
    (kk : ∀ (H1 : Heap) (locs1 : List Loc), q_Wd D (q_gC G) bs tc q' H1 → va_S (fun z => bs ≤ z) s.heap H1 locs1 → W p l e R s m args below meth c H1 locs1 cells slots Q (F0 m (pc + len) ls (st'.map (q_cv bs)))) : W p l e R s m args below meth c H locs cells slots Q (F0 m pc ls (st.map (q_cv bs))) := by
  have hD := q_cw_D (bs := bs) (tc := tc) (m := q)
  unfold q_mem at h
  split at h
  · -- getfield
    rename_i n
    simp only [q_ok2] at ho
    split at ho
    rotate_left
    · cases ho
    rename_i x
    split at ho
    rotate_left
    · cases ho
    rename_i C T N hc
    simp only [decide_eq_true_eq] at ho
    obtain ⟨rfl, hk, hC, hl⟩ := ho
    split at h
    rotate_left
    · cases h
    split at h
    rotate_left
    · cases h
    rename_i ci fs hm
    split at h
    rotate_left
    · cases h
    rename_i hci
    subst hci
    split at h
    rotate_left
    · cases h
    rename_i v hv
    cases h
    have hq := q_cw_get (bs := bs) (tc := tc) hm
    refine va_get hx hb hts (hV.1 _ _ _ _ hc).1 hown hK hw _ hq hc (n % 64) hk (hts _ (q_T_at hl rfl)) (fun z hz => by rw [hC] at hz; exact hz) (v := q_cv bs v) (by simp [List.getElem?_map, hv]) hd ?_
    exact kk H locs hw hS
  · -- putfield
    rename_i n
    simp only [q_ok2] at ho
    split at ho
    rotate_left
    · cases ho
    rename_i x
    split at ho
    rotate_left
    · cases ho
    rename_i C T N hc
    simp only [decide_eq_true_eq] at ho
    obtain ⟨rfl, hk, hC, hf, hl⟩ := ho
    split at h
    rotate_left
    · cases h
    split at h
    rotate_left
    · cases h
    rename_i v k r _ ci fs hm
    split at h
    rotate_left
    · cases h
    rename_i hci
    obtain ⟨hci, hlen, hn, hfit⟩ := hci
    subst hci
    cases h
    have hq := q_cw_get (bs := bs) (tc := tc) hm
    have hG := hV.1 _ _ _ _ hc
    have e1 : (q_cw bs tc q).set k (bs + k, .inr (n / 64, (fs.map (q_cv bs)).set (n % 64) (q_cv bs v))) = q_cw bs tc (q.set k (.inr (n / 64, fs.set (n % 64) v))) := by
      rw [← q_cw_set]
      simp [q_ce, List.map_set]
    have fin : ∀ (H1 : Heap) (locs1 : List Loc), va_P D (q_gC G) ((q_cw bs tc q).set k (bs + k, .inr (n / 64, (fs.map (q_cv bs)).set (n % 64) (q_cv bs v)))) H1 → va_D (fun z => bs ≤ z) ((q_cw bs tc q).set k (bs + k, .inr (n / 64, (fs.map (q_cv bs)).set (n % 64) (q_cv bs v)))) → va_S (fun z => bs ≤ z) s.heap H1 locs1 → W p l e R s m args below meth c H1 locs1 cells slots Q (F0 m (pc + 3) ls (st'.map (q_cv bs))) := fun H1 locs1 a1 _ a3 => kk H1 locs1 (by show va_P _ _ _ _; rw [← e1]; exact a1) a3
    by_cases hfin : (T (n % 64)).2.2.2 = false
    · exact va_put hx hb hts hG.1 (q_gY G (n / 64)) hG.2.1 hG.2.2.1 hown hK hw hD hS k hq hc (n % 64) hk (hts _ (q_T_at hl rfl)) (fun z hz => by rw [hC] at hz; exact hz) hfin (hG.2.1 _ hk) (v := q_cv bs v) (by rw [q_cv_narrow, hn]) (q_cv_fits bs _ v hfit) (by simpa using hlen) hd fin
    · rcases hf with hf | hf
      · exact absurd hf hfin
      · exact va_putF hx hb hts hG.1 (q_gY G (n / 64)) hG.2.1 hG.2.2.1 hown hK hw hD hS k hq hc (n % 64) hk (hts _ (q_T_at hl rfl)) (fun z hz => by rw [hC] at hz; exact hz) (by simpa using hfin) (hini hf.1) (by rw [hC]; exact hf.2) (hG.2.1 _ hk) (v := q_cv bs v) (by rw [q_cv_narrow, hn]) (q_cv_fits bs _ v hfit) (by simpa using hlen) hd fin
  · -- iaload
    simp only [q_ok2, decide_eq_true_eq] at ho
    obtain ⟨rfl, rfl, hA⟩ := ho
    split at h
    rotate_left
    · cases h
    split at h
    rotate_left
    · cases h
    rename_i j k r _ t n f hm
    split at h
    rotate_left
    · cases h
    rename_i hc
    obtain ⟨rfl, hin⟩ := hc
    cases h
    exact va_iald hx hb hK hw k 0 (q_cw_get (bs := bs) (tc := tc) hm) (q_tyl_get hA) (q_in_vp hin) hd (kk H locs hw hS)
  · -- laload
    simp only [q_ok2, decide_eq_true_eq] at ho
    obtain ⟨rfl, rfl, hA⟩ := ho
    split at h
    rotate_left
    · cases h
    split at h
    rotate_left
    · cases h
    rename_i j k r _ t n f hm
    split at h
    rotate_left
    · cases h
    rename_i hc
    obtain ⟨rfl, hin⟩ := hc
    cases h
    exact va_lald hx hb hK hw k 1 (q_cw_get (bs := bs) (tc := tc) hm) (q_tyl_get hA) (q_in_vp hin) hd (kk H locs hw hS)
  · -- baload
    simp only [q_ok2, decide_eq_true_eq] at ho
    obtain ⟨rfl, rfl, hA, hA2⟩ := ho
    split at h
    rotate_left
    · cases h
    split at h
    rotate_left
    · cases h
    rename_i j k r _ t n f hm
    split at h
    rotate_left
    · cases h
    rename_i hc
    obtain ⟨ht, hin⟩ := hc
    cases h
    rcases ht with rfl | rfl
    · exact va_bald hx hb hK hw k 2 (q_cw_get (bs := bs) (tc := tc) hm) (q_tyl_get hA) (q_in_vp hin) hd (kk H locs hw hS)
    · exact va_zald hx hb hK hw k 3 (q_cw_get (bs := bs) (tc := tc) hm) (q_tyl_get hA2) (q_in_vp hin) hd (kk H locs hw hS)
  · -- aaload
    simp only [q_ok2, decide_eq_true_eq] at ho
    obtain ⟨rfl, rfl, hA, hA2⟩ := ho
    split at h
    rotate_left
    · cases h
    split at h
    rotate_left
    · cases h
    rename_i j k r _ t n f hm
    split at h
    rotate_left
    · cases h
    rename_i hc
    obtain ⟨ht, hin, ht2⟩ := hc
    cases h
    obtain ⟨C, hC⟩ : ∃ C, (q_gA G)[t]? = some (.object C) := by
      have hz : (q_gA G)[t]? = some ((q_gA G)[t]) := List.getElem?_eq_getElem ht2
      have hmem : (q_gA G)[t] ∈ (q_gA G).drop 4 := by
        refine List.mem_of_getElem? (i := t - 4) ?_
        rw [List.getElem?_drop, show 4 + (t - 4) = t by omega]
        exact hz
      have hall := List.all_eq_true.mp hA _ hmem
      split at hall
      · rename_i C hC
        exact ⟨C, by rw [hz, hC]⟩
      · cases hall
    refine va_aldq hx hb hK hw k t (q_cw_get (bs := bs) (tc := tc) hm) (q_tyl_get hC) (q_in_vp hin) hd ?_
    have e2 : va_rf ((f j.toNatClampNeg).map (fun z => bs + z)) = q_cv bs (va_rf (f j.toNatClampNeg)) := by
      cases f j.toNatClampNeg <;> rfl
    rw [e2]
    exact kk H locs hw hS
  · -- iastore
    simp only [q_ok2, decide_eq_true_eq] at ho
    obtain ⟨rfl, rfl, hA⟩ := ho
    split at h
    rotate_left
    · cases h
    split at h
    rotate_left
    · cases h
    rename_i x j k r _ t n f hm
    split at h
    rotate_left
    · cases h
    rename_i hc
    obtain ⟨rfl, hin⟩ := hc
    cases h
    exact va_iast hx hb hK hw hD hS k 0 (q_cw_get (bs := bs) (tc := tc) hm) (q_tyl_get hA) (q_in_vp hin) hd (fun H1 locs1 a1 _ a3 => kk H1 locs1 (q_Wset a1) a3)
  · -- lastore
    simp only [q_ok2, decide_eq_true_eq] at ho
    obtain ⟨rfl, rfl, hA⟩ := ho
    split at h
    rotate_left
    · cases h
    split at h
    rotate_left
    · cases h
    rename_i x j k r _ t n f hm
    split at h
    rotate_left
    · cases h
    rename_i hc
    obtain ⟨rfl, hin⟩ := hc
    cases h
    exact va_last hx hb hK hw hD hS k 1 (q_cw_get (bs := bs) (tc := tc) hm) (q_tyl_get hA) (q_in_vp hin) hd (fun H1 locs1 a1 _ a3 => kk H1 locs1 (q_Wset a1) a3)
  · -- bastore
    simp only [q_ok2, decide_eq_true_eq] at ho
    obtain ⟨rfl, rfl, hA, hA2⟩ := ho
    split at h
    rotate_left
    · cases h
    split at h
    rotate_left
    · cases h
    rename_i x j k r _ t n f hm
    split at h
    · rename_i hc
      obtain ⟨rfl, hin⟩ := hc
      cases h
      exact va_bast hx hb hK hw hD hS k 2 (q_cw_get (bs := bs) (tc := tc) hm) (q_tyl_get hA) (q_in_vp hin) hd (fun H1 locs1 a1 _ a3 => kk H1 locs1 (q_Wset a1) a3)
    · split at h
      rotate_left
      · cases h
      rename_i hc
      obtain ⟨rfl, hin⟩ := hc
      cases h
      exact va_zast hx hb hK hw hD hS k 3 (q_cw_get (bs := bs) (tc := tc) hm) (q_tyl_get hA2) (q_in_vp hin) hd (fun H1 locs1 a1 _ a3 => kk H1 locs1 (q_Wset a1) a3)
  · -- aastore
    simp only [q_ok2, decide_eq_true_eq] at ho
    obtain ⟨rfl, rfl⟩ := ho
    split at h
    rotate_left
    · cases h
    split at h
    rotate_left
    · cases h
    rename_i v j k r _ t n f hm
    split at h
    rotate_left
    · cases h
    rename_i _ ci vs hmv
    split at h
    rotate_left
    · cases h
    rename_i hc
    obtain ⟨ht, hin, hC, hC2⟩ := hc
    cases h
    cases hci : (q_gC G)[ci]? with
    | none =>
      rw [hci] at hC
      rw [← hC] at hC2
      cases hC2
    | some z =>
      rw [hci] at hC
      refine va_astq hx hb hK hw hD hS k t v ci (r := z) (q_cw_get (bs := bs) (tc := tc) hm) (q_tyl_get hC.symm) (q_cw_get (bs := bs) (tc := tc) hmv) hci (q_in_vp hin) hd (fun H1 locs1 a1 _ a3 => kk H1 locs1 ?_ a3)
      have e3 : (fun y => (va_up f j.toNatClampNeg (some v) y).map (fun z => bs + z)) = va_up (fun y => (f y).map (fun z => bs + z)) j.toNatClampNeg (some (bs + v)) := by
        funext y
        simp only [va_up]
        split <;> rfl
      refine q_Wset ?_
      simp only [q_ce, e3]
      exact a1
  · -- arraylength
    simp only [q_ok2, decide_eq_true_eq] at ho
    obtain ⟨rfl, rfl⟩ := ho
    split at h
    rotate_left
    · cases h
    split at h
    rotate_left
    · cases h
    rename_i k r _ t n f hm
    split at h
    rotate_left
    · cases h
    rename_i hc
    cases h
    have hty := q_tyl_get (G := G) (tc := tc) (List.getElem?_eq_getElem hc)
    have hq := q_cw_get (bs := bs) (tc := tc) hm
    rcases f with f | f | f
    · exact va_alen hx hb hK hw k t hq hty rfl hd (kk H locs hw hS)
    · exact va_alen hx hb hK hw k t hq hty rfl hd (kk H locs hw hS)
    · exact va_alen hx hb hK hw k t hq hty rfl hd (kk H locs hw hS)
  · -- Object's own start, a row copied
    simp only [q_ok2] at ho
    split at h
    · rename_i n hn
      subst hn
      split at ho
      · simp only [decide_eq_true_eq] at ho
        obtain ⟨-, rfl, hl⟩ := ho
        split at h
        rotate_left
        · cases h
        split at h
        rotate_left
        · cases h
        rename_i hc
        cases h
        exact W.objInit hx hb hown (hts _ (q_T_at hl rfl)) (hts _ (hV.2 _ (by simp [q_sys]))) (hts _ (hV.2 _ (by simp [q_sys]))) rfl hml.symm rfl hd hc.1 (by
          rw [q_cats_cv]
          have := hc.2
          simpa [JFrame.monitorRoom] using this) (kk H locs hw hS)
      · simp only [decide_eq_true_eq] at ho
        exact absurd ho.1 (by decide)
      · simp only [decide_eq_true_eq] at ho
        rcases ho with ⟨-, ⟨h9, -⟩ | ⟨h9, -⟩⟩ <;> exact absurd h9 (by decide)
      · cases ho
    · split at h
      rotate_left
      · sorry
      rename_i n hn0 hn
      subst hn
      split at ho
      · simp only [decide_eq_true_eq] at ho
        exact absurd ho.1 (by decide)
      · simp only [decide_eq_true_eq] at ho
        obtain ⟨-, rfl, hA0, hA1, hl⟩ := ho
        unfold q_copy at h
        split at h
        rotate_left
        · cases h
        rename_i w dp k sp j r
        split at h
        rotate_left
        · cases h
        rename_i hc
        obtain ⟨hfr, hlo, hsp, hdp, hw0⟩ := hc
        have hlo2 : ((r.map (q_cv bs)).map fun v => v.category).sum + (nativeFrameWords "java/lang/System" "arraycopy" 5 + 11) ≤ R.locals := by
          rw [q_cats_cv]
          have e9 : nativeFrameWords "java/lang/System" "arraycopy" 5 = 7 := by decide +kernel
          omega
        unfold q_cpy at h
        split at h
        · rename_i t0 n0 f t1 n1 g hj hk
          split at h
          rotate_left
          · cases h
          rename_i hc
          obtain ⟨rfl, rfl, h4, h5⟩ := hc
          cases h
          exact va_copyi hx hb hml hown (hts _ (q_T_at hl rfl)) (hts _ (hV.2 _ (by simp [q_sys]))) (hts _ (hV.2 _ (by simp [q_sys]))) (hts _ (hV.2 _ (by simp [q_sys]))) hK hw hD hS j k 0 0 (ty := .int) (q_cw_get (bs := bs) (tc := tc) hj) (q_cw_get (bs := bs) (tc := tc) hk) (q_tyl_get hA0) (q_tyl_get hA0) rfl hsp hdp hw0 h4 h5 (fun _ _ => rfl) hfr hlo2 hd (fun H1 locs1 a1 _ a3 => kk H1 locs1 (q_Wset a1) a3)
        · rename_i t0 n0 f t1 n1 g hj hk
          split at h
          rotate_left
          · cases h
          rename_i hc
          obtain ⟨rfl, rfl, h4, h5⟩ := hc
          cases h
          exact va_copyl hx hb hml hown (hts _ (q_T_at hl rfl)) (hts _ (hV.2 _ (by simp [q_sys]))) (hts _ (hV.2 _ (by simp [q_sys]))) (hts _ (hV.2 _ (by simp [q_sys]))) hK hw hD hS j k 1 1 (ty := .long) (q_cw_get (bs := bs) (tc := tc) hj) (q_cw_get (bs := bs) (tc := tc) hk) (q_tyl_get hA1) (q_tyl_get hA1) rfl hsp hdp hw0 h4 h5 (fun _ _ => rfl) hfr hlo2 hd (fun H1 locs1 a1 _ a3 => kk H1 locs1 (q_Wset a1) a3)
        · cases h
      · simp only [decide_eq_true_eq] at ho
        rcases ho with ⟨-, ⟨h9, -⟩ | ⟨h9, -⟩⟩ <;> exact absurd h9 (by decide)
      · cases ho
  · cases h
end QMEM
end
section
section QNEW
variable {p : Program} {l : Launch} {e : Env} {R : Room} {s : State} {m : MethodId} {args : Array Value} {below : List Frame} {meth : Method} {c : Code} {H : Heap} {locs : List Loc} {cells slots : Nat} {Q : State → Prop}
variable {cc : ByteArray} {pc : Nat} {ls : Array Slot} {G : q_G} {D : va_G} {bs : Nat} {tc : Nat → ClassId}
theorem q_pushed {cl : List vw_C} {q : q_M} {x : q_E} {H1 : Heap} (hw : q_Wd D cl bs tc q H) (hz : H.size = bs + q.length) (e1 : va_at D cl (H.size, q_ce bs tc x) H1) (o1 : ∀ z, z < H.size → H1[z]? = H[z]?) : q_Wd D cl bs tc (q ++ [x]) H1 := by
  show va_P _ _ _ _
  rw [← q_cw_push]
  refine (va_P.kept hw (fun k y hy => o1 y.1 ((hw k y hy).lt))).app (fun k y hy => ?_)
  have hk : k < 1 := (List.getElem?_eq_some_iff.mp hy).1
  rw [show k = 0 by omega] at hy
  cases hy
  rw [← hz]
  exact e1
theorem q_grown {H0 H1 : Heap} (hS : va_S (fun z => bs ≤ z) H0 H locs) (z1 : H1.size = H.size + 1) (o1 : ∀ z, z < H.size → H1[z]? = H[z]?) : va_S (fun z => bs ≤ z) H0 H1 locs :=
  ⟨Nat.le_trans hS.1 (by omega), fun x h1 h2 => (o1 x (Nat.lt_of_lt_of_le h1 hS.1)).trans (hS.2.1 x h1 h2), hS.2.2⟩
theorem q_newW (hx : p.tables.exec = Jvm.exec) (hb : c.code = cc) (hV : q_GV G) {own : String} (hown : s.vm.findClass own = some m.cls) (hts : ∀ w ∈ q_T G, w.before args s = true) (hK : va_K D (q_gC G) (q_tyl G tc) s)
    (hAO : ∀ (t : Nat) (C : String), (q_gA G)[t]? = some (.object C) → va_AO C s)
    {len pos : Nat} {raw i : Instr} {st st' : List Value} {q : q_M} {x : q_E} (hd : decode cc pc = .ok (raw, len)) (ho : q_ok3 G own raw len i pos = true)
    (hw : q_Wd D (q_gC G) bs tc q H) (hS : va_S (fun z => bs ≤ z) s.heap H locs) (hz : H.size = bs + q.length)
    (h : q_new G i st q = some (st', x)) (hc1 : cells + 1 ≤ R.cells) (hc2 : slots + q_sz x ≤ R.slots)
    (kk : ∀ (H1 : Heap), q_Wd D (q_gC G) bs tc (q ++ [x]) H1 → va_S (fun z => bs ≤ z) s.heap H1 locs → W p l e R s m args below meth c H1 locs (cells + 1) (slots + q_sz x) Q (F0 m (pc + len) ls (st'.map (q_cv bs)))) : W p l e R s m args below meth c H locs cells slots Q (F0 m pc ls (st.map (q_cv bs))) := by
  unfold q_new at h
  split at h
  · -- new
    rename_i ci
    simp only [q_ok3] at ho
    split at ho
    rotate_left
    · cases ho
    split at ho
    rotate_left
    · cases ho
    rename_i C T N hc
    simp only [decide_eq_true_eq] at ho
    obtain ⟨rfl, hl⟩ := ho
    rw [hc] at h
    cases h
    have hKn := hK.1 ci _ hc
    have hG := hV.1 _ _ _ _ hc
    have hN : q_sz (.inr (ci, (List.range N).map (fun k => defaultValue (q_gY G ci k)))) = N := by simp [q_sz]
    rw [hN] at hc2 kk
    refine W.newcK hx hb hown (hts _ (q_T_at hl rfl)) (hts _ hG.2.2.2.1) (hts _ hG.2.2.2.2) rfl hd hc1 hc2 hKn.2.1 rfl fun H1 kC hkC e1 z1 o1 => ?_
    have K := kk H1 (q_pushed hw hz ⟨_, hc, (u_born (q_gY G ci) hts hG.1 hKn hkC e1 hG.2.1).to (fun k hk => by
      have : ¬ N ≤ k := by omega
      simp only [vp_V, List.getD_eq_getElem?_getD, List.getElem?_map, List.getElem?_range hk]
      simp only [Option.map_some, Option.getD_some]
      cases q_gY G ci k <;> rfl)⟩ o1) (q_grown hS z1 o1)
    simp only [List.map_cons, q_cv] at K
    rw [← hz] at K
    exact K
  · -- newarray
    rename_i a
    simp only [q_ok3, decide_eq_true_eq] at ho
    obtain ⟨rfl, rfl, hl, hA⟩ := ho
    split at h
    rotate_left
    · cases h
    rename_i w r
    split at h
    rotate_left
    · cases h
    rename_i hw3
    obtain ⟨hw0, hw1, hw2⟩ := hw3
    cases h
    have hbytes : w.toNatClampNeg * componentBytes (Op.newarray.typeOf a) ≤ 536870912 := by
      have : componentBytes (Op.newarray.typeOf a) ≤ 8 := by cases a <;> decide
      have := Nat.mul_le_mul hw1 this
      omega
    have hty := hK.2 (q_tag a) _ (q_tyl_get hA)
    refine va_newaK hx hb (hts _ (q_T_at hl rfl)) rfl hd rfl hw0 rfl hbytes hc1 hc2 rfl fun H1 cA e1 z1 o1 hAr hNm => ?_
    have hcA : tc (q_tag a) = cA := by
      have h9 := hty.2
      cases a <;> first | exact absurd hw2 (by decide) | exact Option.some.inj (h9.symm.trans hNm)
    subst hcA
    have K := kk H1 (q_pushed hw hz (by
      cases a <;> first | exact absurd hw2 (by decide) | exact e1) o1) (q_grown hS z1 o1)
    simp only [List.map_cons, q_cv] at K
    rw [← hz] at K
    exact K
  · -- anewarray
    rename_i t
    simp only [q_ok3] at ho
    split at ho
    rotate_left
    · cases ho
    split at ho
    rotate_left
    · cases ho
    rename_i o y C hl
    simp only [decide_eq_true_eq] at ho
    obtain ⟨rfl, rfl, rfl, hA⟩ := ho
    split at h
    rotate_left
    · cases h
    rename_i w r
    split at h
    rotate_left
    · cases h
    rename_i hw3
    obtain ⟨hw0, hw1⟩ := hw3
    cases h
    have hty := hK.2 t _ (q_tyl_get hA)
    obtain ⟨kA0, comp0, g1, g2, g3, g4⟩ := hty.2
    refine W.anew hx hb hown (hts _ (q_T_at hl rfl)) (va_AO.use (hAO t C hA)) rfl hd rfl hw0 (by omega) hc1 hc2 fun cA kA comp f1 f2 f3 f4 => ?_
    have hcA : tc t = cA := Option.some.inj (g4.symm.trans f1)
    subst hcA
    have e1 : va_at D (q_gC G) (H.size, q_ce bs tc (.inl (t, w.toNatClampNeg, .inr (.inr (fun _ => none))))) (H.push { cls := tc t, slots := Array.replicate w.toNatClampNeg .null, vm := .none }) := by
      show (H.push _)[H.size]? = some (vp_cell _ _)
      simp only [Array.getElem?_push_size, vp_cell, Option.map_none, va_rf]
      rw [← arrV_new]
    have o1 : ∀ z, z < H.size → (H.push { cls := tc t, slots := Array.replicate w.toNatClampNeg .null, vm := .none })[z]? = H[z]? := fun z hz9 => by rw [Array.getElem?_push, if_neg (Nat.ne_of_lt hz9)]
    have K := kk _ (q_pushed hw hz e1 o1) (q_grown hS (by simp) o1)
    simp only [List.map_cons, q_cv] at K
    rw [← hz] at K
    exact K
  · cases h
end QNEW
end
section
theorem q_setz {q : q_M} {k : Nat} {x y : q_E} (h : q[k]? = some x) (hs : q_sz y = q_sz x) : (q.set k y).length = q.length ∧ q_sl (q.set k y) = q_sl q := ⟨List.length_set, q_sl_set h hs⟩
theorem q_mem_sz {G : q_G} {fr lo : Nat} {i : Instr} {st st1 : List Value} {q q1 : q_M} (h : q_mem G fr lo i st q = some (st1, q1)) : q1.length = q.length ∧ q_sl q1 = q_sl q := by
  unfold q_mem at h
  repeat' split at h
  all_goals first
    | (cases h; done)
    | (cases h; exact ⟨rfl, rfl⟩)
    | (cases h; refine q_setz (by assumption) ?_; first | rfl | simp [q_sz])
    | skip
  unfold q_copy at h
  repeat' split at h
  all_goals first
    | (cases h; done)
    | skip
  unfold q_cpy at h
  repeat' split at h
  all_goals first
    | (cases h; done)
    | (cases h; refine q_setz (by assumption) ?_; first | rfl | simp [q_sz])
theorem q_mono {G : q_G} : ∀ (n : Nat) (M : q_MI) (pc : Nat) (lv : q_L) (st : List Value) (q : q_M) (r : Option Value) (qF : q_M), q_run G n M pc lv st q = some (r, qF) → q.length ≤ qF.length ∧ q_sl q ≤ q_sl qF
  | 0, _, _, _, _, _, _, _, h => by simp [q_run] at h
  | n + 1, M, pc, lv, st, q, r, qF, h => by
    unfold q_run at h
    split at h
    · cases h
    · split at h
      · split at h
        · exact q_mono n _ _ _ _ _ _ _ h
        · cases h
      · split at h
        · rename_i h1
          have h2 := q_mono n _ _ _ _ _ _ _ h
          have h3 := q_mem_sz h1
          rw [h3.1, h3.2] at h2
          exact h2
        · cases h
      · split at h
        · have h2 := q_mono n _ _ _ _ _ _ _ h
          rw [q_sl_push, List.length_append] at h2
          exact ⟨by omega, by omega⟩
        · cases h
      · split at h
        · split at h
          · split at h
            · rename_i h1
              have h2 := q_mono n _ _ _ _ _ _ _ h
              have h3 := q_mono n _ _ _ _ _ _ _ h1
              exact ⟨by omega, by omega⟩
            · cases h
          · cases h
        · split at h
          · cases h
            exact ⟨Nat.le_refl _, Nat.le_refl _⟩
          · cases h
      · split at h
        · exact q_mono n _ _ _ _ _ _ _ h
        · cases h
def q_Nst (G : q_G) (U : State) : Prop := (∀ z ∈ q_gN G, va_Nw (.methodLinkNest z.1 z.2.1 z.2.2.1 z.2.2.2) U) ∧ (∀ (t : Nat) (C : String), (q_gA G)[t]? = some (.object C) → va_AO C U)
theorem q_Nst_warm {G : q_G} {s U : State} (hW : s.WarmedH U.vm) (h : q_Nst G s) : q_Nst G U := ⟨fun z hz => va_Nw.warmM hW (h.1 z hz), fun t C ht => va_AO.moved hW.alike (h.2 t C ht)⟩
theorem q_Nst_same {G : q_G} {u U : State} (e : u.vm = U.vm) (h : q_Nst G u) : q_Nst G U := ⟨fun z hz => va_Nw.same rfl e (h.1 z hz), fun t C ht => va_AO.moved (by rw [e]; exact Vm.Alike.refl _) (h.2 t C ht)⟩
def q_Pc (G : q_G) (D : va_G) (bs : Nat) (tc : Nat → ClassId) (as : List Value) (q : q_M) : Array Value → State → Prop := fun v U => v = (as.map (q_cv bs)).toArray ∧ U.heap.size = bs + q.length ∧ q_Wd D (q_gC G) bs tc q U.heap ∧ va_K D (q_gC G) (q_tyl G tc) U ∧ q_Nst G U
def q_Qc (G : q_G) (D : va_G) (bs : Nat) (tc : Nat → ClassId) (r : Option Value) (q : q_M) : Array Value → State → Outcome → State → Prop := fun _ st o t => o = .returned (r.map (q_cv bs)) ∧ q_Wd D (q_gC G) bs tc q t.heap ∧ va_F (fun z => bs ≤ z) st t
def q_ws (G : q_G) (M : q_MI) : List Cond := .code (q_mY M) (q_mB M) (q_mL M) (q_mR M) :: q_T G
theorem q_blind {G : q_G} {D : va_G} {bs : Nat} {tc : Nat → ClassId} {as : List Value} {q : q_M} : FrameBlind (q_Pc G D bs tc as q) := fun a U g mk h => by
  obtain ⟨h1, h2, h3, h4, h5⟩ := h
  exact ⟨h1, h2, h3, va_K.moved (u := U) (U := U.calling g mk a) (Vm.Alike.refl U.vm) h4, q_Nst_same rfl h5⟩
theorem q_args_cl (bs : Nat) : ∀ (as : List Value) (i : Nat), lv_args i (as.map (q_cv bs)) = q_cl bs (lv_args i as)
  | [], i => rfl
  | v :: as, i => by
    simp only [List.map_cons, lv_args, q_cv_cat]
    rw [q_args_cl bs as]
    rfl
theorem q_sl_len (bs : Nat) : ∀ (as : List Value), (lg_sl (as.map (q_cv bs))).length = q_cats as
  | [] => rfl
  | v :: as => by
    have ih := q_sl_len bs as
    simp only [lg_sl, List.map_cons, List.flatMap_cons, List.length_append, q_cats, List.sum_cons, q_cv_cat] at ih ⊢
    rw [ih]
    rcases lv_cat v with h | h <;> simp [h]
section QCALL
variable {p : Program} {l : Launch} {e : Env} {R : Room} {s : State} {m : MethodId} {args : Array Value} {below : List Frame} {meth : Method} {c : Code} {H : Heap} {locs : List Loc} {cells slots : Nat} {Q : State → Prop}
variable {pc : Nat} {ls : Array Slot} {G : q_G} {D : va_G} {bs : Nat} {tc : Nat → ClassId}
theorem q_callW {mc ms : Nat} {st0 rest : List Value} {r1 : Option Value} {q1 : q_M} {a : Array Value} (hr : va_Run p l e R s m args below meth c H locs cells slots mc ms (F0 m pc ls st0) rest (q_Qc G D bs tc r1 q1 a) (fun z => bs ≤ z)) (hS : va_S (fun z => bs ≤ z) s.heap H locs)
    (kk : ∀ (H1 : Heap) (locs1 : List Loc), q_Wd D (q_gC G) bs tc q1 H1 → va_S (fun z => bs ≤ z) s.heap H1 locs1 → W p l e R s m args below meth c H1 locs1 (cells + mc) (slots + ms) Q (F0 m (pc + 3) ls ((r1.map (q_cv bs)).toList ++ rest))) : W p l e R s m args below meth c H locs cells slots Q (F0 m pc ls st0) := by
  intro T hT X
  obtain ⟨v, st₀, t, T', L, h0, X', hL, e1, e2, ⟨hv, hb, hz, hk⟩, st⟩ := hr T hT X
  cases hv
  rw [h0] at hz hk
  obtain ⟨t2, a1, b1⟩ := kk T'.heap (locs ++ L) (by rw [e1]; exact hb)
    ⟨Nat.le_trans hS.1 (by rw [e1]; exact hz), fun z h1 h2 => by rw [e1, hk z (Nat.lt_of_lt_of_le h1 hS.1) h2]; exact hS.2.1 z h1 h2, fun z hz => by
      rcases List.mem_append.mp hz with h | h
      · exact hS.2.2 z h
      · exact hL z h⟩ T' rfl X'
  exact ⟨t2, st t2 a1, b1⟩
end QCALL
end
section
def q_Cx (G : q_G) (D : va_G) (bs : Nat) (tc : Nat → ClassId) (M : q_MI) (q0 qF : q_M) (p : Program) (R : Room) (s : State) (m : MethodId) (args : Array Value) (meth : Method) (c : Code) : Prop :=
  p.tables.exec = Jvm.exec ∧ c.code = q_mB M ∧ c.maxLocals = q_mL M ∧ s.vm.findClass (q_mY M).cls = some m.cls ∧ (∀ w ∈ q_T G, w.before args s = true) ∧ va_K D (q_gC G) (q_tyl G tc) s ∧ q_Nst G s ∧ meth.sig.returnType = q_mR M ∧ meth.locks = false ∧ (q_mK M = 2 → meth.name = "<init>") ∧ s.heap.size = bs + q0.length
  ∧ R = ({ frames := q_mF M, cells := qF.length - q0.length, slots := q_sl qF - q_sl q0, locals := q_mO M } : Room)
def q_Dx (G : q_G) (D : va_G) (bs : Nat) (tc : Nat → ClassId) (M : q_MI) (q0 q : q_M) (lv : q_L) (s : State) (H : Heap) (locs : List Loc) (cells slots : Nat) (ls : Array Slot) : Prop :=
  q_Wd D (q_gC G) bs tc q H ∧ va_S (fun z => bs ≤ z) s.heap H locs ∧ lv_has ls (q_mL M) (q_cl bs lv) ∧ cells = q.length - q0.length ∧ slots = q_sl q - q_sl q0 ∧ q0.length ≤ q.length ∧ q_sl q0 ≤ q_sl q
theorem q_good {G : q_G} {M : q_MI} (hok : q_okM G M) : GoodIn (q_T G) (q_ws G M) := by
  intro w hw
  rcases List.mem_cons.mp hw with rfl | h
  · have h1 := hok.1
    simp only [q_okH, Bool.and_eq_true, decide_eq_true_eq] at h1
    exact ⟨q_T_at h1.1.1.2 rfl, Or.inl rfl⟩
  · exact ⟨h, good_of_word (List.mem_filter.mp h).2⟩
theorem q_ofW {l : Launch} {y : MethodName} {ws ws' : List Cond} {rm : Room} {Pc : Array Value → State → Prop} {Qc : Array Value → State → Outcome → State → Prop} {mc ms : Nat} {free : Addr → Prop} {cc : ByteArray} {maxL : Nat} {ret : Option FieldType}
    (hy : plainFor y = true) (hw : ws = Cond.code y cc maxL ret :: ws')
    (body : ∀ p e s m args below meth c s₁, BodyLoose p l y (headSpec ws rm) cc maxL ret e s m args below meth c s₁ → c.maxLocals = maxL → Pc args s →
      W p l e (headSpec ws rm).room s m args below meth c s.heap [] 0 0 (MQ below Qc args s mc ms free) (entryFrame m args maxL)) : Met l y ws rm Pc Qc mc ms free := by
  refine MetFree.of_bodySF (code := cc) (maxLocals := maxL) (ret := ret) hy ?_ ?_
  · intro args s m h hn
    obtain ⟨meth, c, h1, h2, h3, h4, h5, h6, -, -⟩ := Cond.code_spec hn (atoms_spec (ws := ws) h _ (by rw [hw]; exact List.mem_cons_self))
    exact ⟨meth, c, h1, h2, h3, h4, h5, h6⟩
  · intro p e s m args below meth c s₁ B hml hP _
    have hh0 : s₁.heap = s.heap := by rw [B.state]; rfl
    obtain ⟨t, a1, o, b1, b2, b3⟩ := body p e s m args below meth c s₁ B hml hP s₁ hh0 (Stand.of_body B)
    exact ⟨t, o, a1, b1, b2, ⟨b3.1, b3.2⟩⟩
/-- a method's contract out of its walk -/
theorem q_metI {G : q_G} {l : Launch} {D : va_G} {bs : Nat} {tc : Nat → ClassId} {M : q_MI} {as : List Value} {q qF : q_M} {r : Option Value} (hok : q_okM G M) (hm : q.length ≤ qF.length ∧ q_sl q ≤ q_sl qF) (hcats : q_cats as ≤ q_mL M)
    (ih : ∀ {p : Program} {e : Env} {R : Room} {s : State} {m : MethodId} {args : Array Value} {below : List Frame} {meth : Method} {c : Code} {H : Heap} {locs : List Loc} {cells slots : Nat} {ls : Array Slot} {q0 : q_M}, q_Cx G D bs tc M q0 qF p R s m args meth c → q_Dx G D bs tc M q0 q (lv_args 0 as) s H locs cells slots ls →
      W p l e R s m args below meth c H locs cells slots (MQ below (q_Qc G D bs tc r qF) args s (qF.length - q0.length) (q_sl qF - q_sl q0) (fun z => bs ≤ z)) (F0 m 0 ls [])) :
    Met l (q_mY M) (q_ws G M) ({ frames := q_mF M, cells := qF.length - q.length, slots := q_sl qF - q_sl q, locals := q_mO M } : Room) (q_Pc G D bs tc as q) (q_Qc G D bs tc r qF) (qF.length - q.length) (q_sl qF - q_sl q) (fun z => bs ≤ z) := by
  have h1 := hok.1
  simp only [q_okH, Bool.and_eq_true, decide_eq_true_eq] at h1
  refine q_ofW (cc := q_mB M) (maxL := q_mL M) (ret := q_mR M) h1.1.1.1.1 rfl ?_
  intro p e s m args below meth c s₁ B hml hv
  obtain ⟨rfl, hsz, hP, hK, hN⟩ := hv
  have hts := atoms_spec (ws := q_ws G M) B.pre
  have hown := findClass_of_methodNamed B.named
  have hlocks := B.notSynchronized
  have hin : meth.name = (q_mY M).name := (name_of_methodNamed B.named B.method).1
  have hl := lv_entry (as.map (q_cv bs)) (n := q_mL M) (by rw [q_sl_len]; exact hcats)
  rw [q_args_cl] at hl
  rw [lg_entry_eq]
  refine ih (q0 := q) ⟨B.exec, B.bytes, hml, hown, fun w hw => hts w (List.mem_cons_of_mem _ hw), hK, hN, B.returns, hlocks, fun hk => ?_, hsz, rfl⟩ ⟨hP, va_S.rf, hl, by omega, by omega, Nat.le_refl _, Nat.le_refl _⟩
  have h2 := h1.2
  rw [hk] at h2
  simp only [decide_eq_true_eq] at h2
  rw [hin, h2.2.1]
theorem q_stsplit {st : List Value} {n : Nat} {as : List Value} (h : as = (st.take n).reverse) : st = as.reverse ++ st.drop n := by
  rw [h, List.reverse_reverse, List.take_append_drop]
theorem q_cats_rev (as : List Value) : q_cats as.reverse = q_cats as := by
  unfold q_cats
  rw [List.map_reverse]
  exact (List.reverse_perm _).sum_nat
section QINV
variable {p : Program} {l : Launch} {e : Env} {R : Room} {s : State} {m : MethodId} {args : Array Value} {below : List Frame} {meth : Method} {c : Code} {H : Heap} {locs : List Loc} {cells slots : Nat} {Q : State → Prop}
variable {cc : ByteArray} {pc : Nat} {ls : Array Slot} {G : q_G} {D : va_G} {bs : Nat} {tc : Nat → ClassId}
/-- a call, over its callee's contract -/
theorem q_invW (hx : p.tables.exec = Jvm.exec) (hb : c.code = cc) {nL : Nat} (hml : c.maxLocals = nL) {own : String} (hown : s.vm.findClass own = some m.cls) (hts : ∀ w ∈ q_T G, w.before args s = true) (hK : va_K D (q_gC G) (q_tyl G tc) s) (hN : q_Nst G s)
    {M M2 : q_MI} (hokM : q_okM G M2) (hRf : q_mF M = R.frames) (hRl : q_mO M = R.locals) {len pos k : Nat} {raw i : Instr} {lv : q_L} {st as rest : List Value} {q q1 : q_M} {r1 : Option Value} (hd : decode cc pc = .ok (raw, len)) (hok : q_ok4 G own raw len i pos = true) (hk : q_cnum i = some k) (hcall : q_call G M k st q = some (M2, as, rest))
    (hMet0 : q_cats as ≤ q_mL M2 → Met l (q_mY M2) (q_ws G M2) ({ frames := q_mF M2, cells := q1.length - q.length, slots := q_sl q1 - q_sl q, locals := q_mO M2 } : Room) (q_Pc G D bs tc as q) (q_Qc G D bs tc r1 q1) (q1.length - q.length) (q_sl q1 - q_sl q) (fun z => bs ≤ z))
    (hw : q_Wd D (q_gC G) bs tc q H) (hS : va_S (fun z => bs ≤ z) s.heap H locs) (hl : lv_has ls nL lv) (hzz : H.size = bs + q.length) (hfit : cells + (q1.length - q.length) ≤ R.cells ∧ slots + (q_sl q1 - q_sl q) ≤ R.slots)
    (kk : ∀ (H1 : Heap) (locs1 : List Loc), q_Wd D (q_gC G) bs tc q1 H1 → va_S (fun z => bs ≤ z) s.heap H1 locs1 → W p l e R s m args below meth c H1 locs1 (cells + (q1.length - q.length)) (slots + (q_sl q1 - q_sl q)) Q (F0 m (pc + len) ls ((r1.toList ++ rest).map (q_cv bs)))) : W p l e R s m args below meth c H locs cells slots Q (F0 m pc ls (st.map (q_cv bs))) := by
  unfold q_call at hcall
  split at hcall
  · cases hcall
  rename_i M3 hM2
  split at hcall
  rotate_left
  · cases hcall
  rename_i hcc
  obtain ⟨hlen, hca, hfr, hlo, hcb, hrc⟩ := hcc
  have e0 := Option.some.inj hcall
  have e1 : M3 = M2 := congrArg Prod.fst e0
  subst e1
  have e2 : as = (st.take (q_na M3)).reverse := (congrArg (fun z => z.2.1) e0).symm
  have e3 : rest = st.drop (q_na M3) := (congrArg (fun z => z.2.2) e0).symm
  have hst : st = as.reverse ++ rest := by rw [e3]; exact q_stsplit e2
  have hcas : q_cats as ≤ q_mL M3 := by rw [e2, q_cats_rev]; exact hcb
  have hMet := hMet0 hcas
  have hH := hokM.1
  simp only [q_okH, Bool.and_eq_true, decide_eq_true_eq] at hH
  obtain ⟨⟨⟨⟨-, hnm⟩, hcode⟩, hinit⟩, hkind⟩ := hH
  have hPre : ∀ U : State, U.heap = H → s.WarmedH U.vm → q_Pc G D bs tc as q ((as.map (q_cv bs)).toArray) U := fun U hU hW => ⟨rfl, by rw [hU]; exact hzz, by rw [hU]; exact hw, va_K.moved hW.alike hK, q_Nst_warm hW hN⟩
  have hroom : 2 * (F0 m pc ls (st.map (q_cv bs))).monitorRoom + ((rest.map (q_cv bs)).map fun v => v.category).sum ≤ 8 := by
    rw [q_cats_cv, e3]
    simpa [JFrame.monitorRoom] using hca
  have goOn : ∀ (H1 : Heap) (locs1 : List Loc), q_Wd D (q_gC G) bs tc q1 H1 → va_S (fun z => bs ≤ z) s.heap H1 locs1 → len = 3 → W p l e R s m args below meth c H1 locs1 (cells + (q1.length - q.length)) (slots + (q_sl q1 - q_sl q)) Q (F0 m (pc + 3) ls ((r1.map (q_cv bs)).toList ++ rest.map (q_cv bs))) := by
    intro H1 locs1 hw1 hS1 hlen3
    subst hlen3
    have K := kk H1 locs1 hw1 hS1
    have e9 : (r1.toList ++ rest).map (q_cv bs) = (r1.map (q_cv bs)).toList ++ rest.map (q_cv bs) := by
      cases r1 <;> simp
    rw [e9] at K
    exact K
  have hstk : st.map (q_cv bs) = (as.map (q_cv bs)).reverse ++ rest.map (q_cv bs) := by
    conv => lhs; rw [hst]
    simp [List.map_reverse]
  have hasl : as.length = q_na M3 := by
    rw [e2, List.length_reverse, List.length_take]
    omega
  unfold q_cnum at hk
  split at hk
  · -- invokevirtual
    rename_i k2
    cases hk
    simp only [q_ok4] at hok
    split at hok
    rotate_left
    · cases hok
    rename_i x
    rw [hM2] at hok
    simp only [decide_eq_true_eq] at hok
    obtain ⟨rfl, hk0, hlink⟩ := hok
    rw [hk0] at hkind
    simp only [decide_eq_true_eq] at hkind
    simp only [q_rcv, hk0] at hrc
    have hna : q_na M3 = q_mN M3 + 1 := by simp [q_na, hk0]
    rw [← e2] at hrc
    generalize hasc : as = as2 at hrc
    split at hrc
    rotate_left
    · cases hrc
    rename_i a As
    split at hrc
    rotate_left
    · cases hrc
    rename_i ci fs hma
    simp only [decide_eq_true_eq, Option.map_eq_some_iff] at hrc
    obtain ⟨zc, hzc, hzn⟩ := hrc
    have hrecv := va_recv hK hw hzc (q_cw_get (bs := bs) (tc := tc) hma)
    rw [hzn] at hrecv
    have hcb2 := callB_of (R := R) (rm := ({ frames := q_mF M3, cells := q1.length - q.length, slots := q_sl q1 - q_sl q, locals := q_mO M3 } : Room)) (mc := q1.length - q.length) (ms := q_sl q1 - q_sl q) (q_mN M3) hts (q_good hokM) rfl rfl rfl (hts _ (q_T_at hinit rfl)) (hts _ (q_T_at hlink rfl)) hnm ⟨hRf ▸ hfr, hRl ▸ hlo⟩
    refine q_callW (r1 := r1) (q1 := q1) (va_runV (As := As.map (q_cv bs)) (b := bs + a) (rest := rest.map (q_cv bs)) ⟨hx, hb, hml, hown, hts⟩ hMet ⟨hcb2, hts _ (q_T_at hkind.1 rfl), hts _ (q_T_at hkind.2 rfl)⟩ ⟨q_blind, hrecv, fun U hU hW => by have := hPre U hU hW; rw [hasc] at this; rw [hasc]; exact this⟩ rfl ?_ hl.1 ?_ hroom hd hfit) hS (fun H1 locs1 a1 a2 => goOn H1 locs1 a1 a2 rfl)
    · have := hasl
      rw [hasc, hna] at this
      simpa using this
    · show st.map (q_cv bs) = _
      rw [hstk, hasc]
      simp [q_cv]
  · -- invokestatic
    rename_i k2
    cases hk
    simp only [q_ok4] at hok
    split at hok
    rotate_left
    · cases hok
    rename_i x
    rw [hM2] at hok
    simp only [decide_eq_true_eq] at hok
    obtain ⟨rfl, hk0, hlink⟩ := hok
    rw [hk0] at hkind
    simp only [decide_eq_true_eq] at hkind
    have hna : q_na M3 = q_mN M3 := by simp [q_na, hk0]
    unfold q_lnk at hlink
    split at hlink
    · simp only [decide_eq_true_eq] at hlink
      have hcb2 := callB_of (R := R) (rm := ({ frames := q_mF M3, cells := q1.length - q.length, slots := q_sl q1 - q_sl q, locals := q_mO M3 } : Room)) (mc := q1.length - q.length) (ms := q_sl q1 - q_sl q) (q_mN M3) hts (q_good hokM) rfl rfl rfl (hts _ (q_T_at hinit rfl)) (hts _ (q_T_at hlink rfl)) hnm ⟨hRf ▸ hfr, hRl ▸ hlo⟩
      refine q_callW (r1 := r1) (q1 := q1) (va_runS (As := as.map (q_cv bs)) (rest := rest.map (q_cv bs)) ⟨hx, hb, hml, hown, hts⟩ hMet ⟨hcb2, hts _ (q_T_at hkind rfl)⟩ ⟨q_blind, hPre⟩ rfl ?_ hl.1 ?_ hroom hd hfit) hS (fun H1 locs1 a1 a2 => goOn H1 locs1 a1 a2 rfl)
      · rw [List.length_map, hasl, hna]
      · exact hstk
    · split at hlink
      rotate_left
      · cases hlink
      rename_i z hz9
      simp only [decide_eq_true_eq] at hlink
      obtain ⟨z1, z2, z3⟩ := hlink
      have hnw := hN.1 z (List.mem_of_getElem? hz9)
      rw [z1, z2, z3] at hnw
      have hcb2 := va_cnB (R := R) (rm := ({ frames := q_mF M3, cells := q1.length - q.length, slots := q_sl q1 - q_sl q, locals := q_mO M3 } : Room)) (mc := q1.length - q.length) (ms := q_sl q1 - q_sl q) (q_mN M3) hts (q_good hokM) rfl rfl rfl hnw (hts _ (q_T_at hinit rfl)) hnm ⟨hRf ▸ hfr, hRl ▸ hlo⟩
      refine q_callW (r1 := r1) (q1 := q1) (va_runSN (As := as.map (q_cv bs)) (rest := rest.map (q_cv bs)) ⟨hx, hb, hml, hown, hts⟩ hMet ⟨hcb2, hts _ (q_T_at hkind rfl), trivial⟩ ⟨q_blind, hPre⟩ rfl ?_ hl.1 ?_ hroom hd hfit) hS (fun H1 locs1 a1 a2 => goOn H1 locs1 a1 a2 rfl)
      · rw [List.length_map, hasl, hna]
      · exact hstk
  · -- invokespecial
    rename_i k2
    cases hk
    simp only [q_ok4] at hok
    split at hok
    rotate_left
    · cases hok
    rename_i x
    rw [hM2] at hok
    simp only [decide_eq_true_eq] at hok
    obtain ⟨rfl, hk0, hlink⟩ := hok
    rw [hk0] at hkind
    simp only [decide_eq_true_eq] at hkind
    obtain ⟨hki, hkn, hkr⟩ := hkind
    simp only [q_rcv, hk0] at hrc
    have hna : q_na M3 = q_mN M3 + 1 := by simp [q_na, hk0]
    rw [← e2] at hrc
    generalize hasc : as = as2 at hrc
    split at hrc
    rotate_left
    · cases hrc
    rename_i a As
    have hlenA : (As.map (q_cv bs)).length = q_mN M3 := by
      have := hasl
      rw [hasc, hna] at this
      simpa using this
    have hstk2 : (F0 m pc ls (st.map (q_cv bs))).stack = (As.map (q_cv bs)).reverse ++ .ref (bs + a) :: rest.map (q_cv bs) := by
      show st.map (q_cv bs) = _
      rw [hstk, hasc]
      simp [q_cv]
    have hPre2 : PreS s H (q_Pc G D bs tc as q) (.ref (bs + a) :: As.map (q_cv bs)) := ⟨q_blind, fun U hU hW => by have := hPre U hU hW; rw [hasc] at this; rw [hasc]; exact this⟩
    unfold q_lnk at hlink
    split at hlink
    · simp only [decide_eq_true_eq] at hlink
      have hcb2 := callB_of (R := R) (rm := ({ frames := q_mF M3, cells := q1.length - q.length, slots := q_sl q1 - q_sl q, locals := q_mO M3 } : Room)) (mc := q1.length - q.length) (ms := q_sl q1 - q_sl q) (q_mN M3) hts (q_good hokM) rfl rfl rfl (hts _ (q_T_at hinit rfl)) (hts _ (q_T_at hlink rfl)) hnm ⟨hRf ▸ hfr, hRl ▸ hlo⟩
      rw [hkr] at hcb2
      exact q_callW (r1 := r1) (q1 := q1) (va_runI (As := As.map (q_cv bs)) (b := bs + a) (rest := rest.map (q_cv bs)) ⟨hx, hb, hml, hown, hts⟩ hMet ⟨hcb2, hkn, hts _ (q_T_at hki rfl)⟩ hPre2 rfl hlenA hl.1 hstk2 hroom hd hfit) hS (fun H1 locs1 a1 a2 => goOn H1 locs1 a1 a2 rfl)
    · split at hlink
      rotate_left
      · cases hlink
      rename_i z hz9
      simp only [decide_eq_true_eq] at hlink
      obtain ⟨z1, z2, z3⟩ := hlink
      have hnw := hN.1 z (List.mem_of_getElem? hz9)
      rw [z1, z2, z3] at hnw
      have hcb2 := va_cnB (R := R) (rm := ({ frames := q_mF M3, cells := q1.length - q.length, slots := q_sl q1 - q_sl q, locals := q_mO M3 } : Room)) (mc := q1.length - q.length) (ms := q_sl q1 - q_sl q) (q_mN M3) hts (q_good hokM) rfl rfl rfl hnw (hts _ (q_T_at hinit rfl)) hnm ⟨hRf ▸ hfr, hRl ▸ hlo⟩
      rw [hkr] at hcb2
      exact q_callW (r1 := r1) (q1 := q1) (va_runIN (As := As.map (q_cv bs)) (b := bs + a) (rest := rest.map (q_cv bs)) ⟨hx, hb, hml, hown, hts⟩ hMet ⟨hcb2, hkn, hts _ (q_T_at hki rfl)⟩ hPre2 rfl hlenA hl.1 hstk2 hroom hd hfit) hS (fun H1 locs1 a1 a2 => goOn H1 locs1 a1 a2 rfl)
  · cases hk
end QINV
end
section
/-- what the pure machine does, the machine does -/
theorem q_main {G : q_G} (hV : q_GV G) (hM : ∀ M ∈ q_gM G, q_okM G M) (l : Launch) (D : va_G) (bs : Nat) (tc : Nat → ClassId) : ∀ (n : Nat) (M : q_MI), M ∈ q_gM G → ∀ (pc : Nat) (lv : q_L) (st : List Value) (q : q_M) (r : Option Value) (qF : q_M), q_run G n M pc lv st q = some (r, qF) →
    ∀ {p : Program} {e : Env} {R : Room} {s : State} {m : MethodId} {args : Array Value} {below : List Frame} {meth : Method} {c : Code} {H : Heap} {locs : List Loc} {cells slots : Nat} {ls : Array Slot} {q0 : q_M}, q_Cx G D bs tc M q0 qF p R s m args meth c → q_Dx G D bs tc M q0 q lv s H locs cells slots ls →
      W p l e R s m args below meth c H locs cells slots (MQ below (q_Qc G D bs tc r qF) args s (qF.length - q0.length) (q_sl qF - q_sl q0) (fun z => bs ≤ z)) (F0 m pc ls (st.map (q_cv bs))) := by
  intro n
  induction n with
  | zero => intro M _ pc lv st q r qF h; simp [q_run] at h
  | succ n ih =>
    intro M hMm pc lv st q r qF h p e R s m args below meth c H locs cells slots ls q0 C X
    have hmono := q_mono (n + 1) M pc lv st q r qF h
    have C0 := C
    obtain ⟨hx, hb, hml, hown, hts, hK, hN, hr, hlocks, hini, hsz, hR⟩ := C
    obtain ⟨hw, hS, hl, hcel, hslo, hq0, hq0s⟩ := X
    subst hR
    have hmls : c.maxLocals = ls.size := hml.trans hl.1.symm
    unfold q_run at h
    split at h
    · cases h
    rename_i I pc0 raw len i pos hfd
    obtain ⟨hI, hpc⟩ := q_fd_mem hfd
    simp only at hpc
    subst hpc
    have hok := List.all_eq_true.mp (hM M hMm).2 _ hI
    simp only [Bool.and_eq_true, decide_eq_true_eq, q_okI] at hok
    obtain ⟨hd, hok⟩ := hok
    split at h
    · -- pure
      rename_i hg
      rw [hg] at hok
      split at h
      rotate_left
      · cases h
      rename_i pc1 l1 st1 hp
      exact q_pureW hx hb hd hok hl hp (fun ls1 hl1 => ih M hMm _ _ _ _ _ _ h C0 ⟨hw, hS, hl1, hcel, hslo, hq0, hq0s⟩)
    · -- memory
      rename_i hg
      rw [hg] at hok
      split at h
      rotate_left
      · cases h
      rename_i st1 q1 hp
      have hz := q_mem_sz hp
      exact q_memW hx hb hmls hV hown hts hK hini hd hok hw hS hp (fun H1 locs1 hw1 hS1 => ih M hMm _ _ _ _ _ _ h C0 ⟨hw1, hS1, hl, by rw [hz.1]; exact hcel, by rw [hz.2]; exact hslo, by rw [hz.1]; exact hq0, by rw [hz.2]; exact hq0s⟩)
    · -- a new cell
      rename_i hg
      rw [hg] at hok
      split at h
      rotate_left
      · cases h
      rename_i st1 x hp
      have hm2 := q_mono n _ _ _ _ _ _ _ h
      rw [q_sl_push, List.length_append] at hm2
      have hm3 : q.length + 1 ≤ qF.length := hm2.1
      refine q_sized (fun hup => ?_)
      have hlow := q_low hw hS hsz
      have hzz : H.size = bs + q.length := by omega
      refine q_newW hx hb hV hown hts hK hN.2 hd hok hw hS hzz hp (by show cells + 1 ≤ qF.length - q0.length; omega) (by show slots + q_sz x ≤ q_sl qF - q_sl q0; omega) (fun H1 hw1 hS1 => ?_)
      exact ih M hMm _ _ _ _ _ _ h C0 ⟨hw1, hS1, hl, by rw [List.length_append]; show cells + 1 = q.length + 1 - q0.length; omega, by rw [q_sl_push]; omega, by rw [List.length_append]; omega, by rw [q_sl_push]; omega⟩
    · -- call or return
      rename_i hg
      rw [hg] at hok
      split at h
      · -- call
        rename_i k hk
        split at h
        rotate_left
        · cases h
        rename_i M1 as rest hcall
        split at h
        rotate_left
        · cases h
        rename_i r1 q1 hrun
        have hMs : M1 ∈ q_gM G := by
          unfold q_call at hcall
          split at hcall
          · cases hcall
          rename_i M3 hM3
          split at hcall
          · cases hcall
            exact List.mem_of_getElem? hM3
          · cases hcall
        have hokM := hM M1 hMs
        have hm1 := q_mono n _ _ _ _ _ _ _ hrun
        have hm2 := q_mono n _ _ _ _ _ _ _ h
        refine q_sized (fun hup => ?_)
        have hlow := q_low hw hS hsz
        have hzz : H.size = bs + q.length := by omega
        exact q_invW hx hb hml hown hts hK hN hokM rfl rfl hd hok hk hcall (fun hcas => q_metI hokM hm1 hcas (fun C X => ih M1 hMs _ _ _ _ _ _ hrun C X)) hw hS hl hzz ⟨by show cells + _ ≤ qF.length - q0.length; omega, by show slots + _ ≤ q_sl qF - q_sl q0; omega⟩ (fun H1 locs1 hw1 hS1 => ih M hMm _ _ _ _ _ _ h C0 ⟨hw1, hS1, hl, by omega, by omega, by omega, by omega⟩)
      · -- return
        split at h
        rotate_left
        · cases h
        rename_i r1 hp
        have e0 := Option.some.inj h
        have e1 : r1 = r := congrArg Prod.fst e0
        have e2 : q = qF := congrArg Prod.snd e0
        subst e1
        subst e2
        subst hcel
        subst hslo
        unfold q_retn at hp
        split at hp
        · simp only [q_ok4, decide_eq_true_eq] at hok
          obtain ⟨rfl, rfl⟩ := hok
          split at hp
          rotate_left
          · cases hp
          split at hp
          rotate_left
          · cases hp
          rename_i v _ ty hty
          split at hp
          rotate_left
          · cases hp
          rename_i hnar
          cases hp
          exact W.zret hx hb (hr.trans hty) hnar (fun t ht hW => ⟨rfl, by rw [ht]; exact hw, hS.F ht⟩) hS.2.2 hd hlocks
        · simp only [q_ok4, decide_eq_true_eq] at hok
          obtain ⟨rfl, rfl⟩ := hok
          split at hp
          rotate_left
          · cases hp
          split at hp
          rotate_left
          · cases hp
          rename_i hty
          cases hp
          exact W.lret hx hb (hr.trans hty) (fun t ht hW => ⟨rfl, by rw [ht]; exact hw, hS.F ht⟩) hS.2.2 hd hlocks
        · simp only [q_ok4, decide_eq_true_eq] at hok
          obtain ⟨rfl, rfl⟩ := hok
          split at hp
          rotate_left
          · cases hp
          split at hp
          rotate_left
          · cases hp
          rename_i hty
          cases hp
          exact W.vret hx hb (hr.trans hty) (fun t ht hW => ⟨rfl, by rw [ht]; exact hw, hS.F ht⟩) hS.2.2 hd hlocks
        · cases hp
    · -- a constant
      rename_i hg0 hg1 hg2 hg3
      split at hok
      · exact absurd (by assumption) hg0
      · exact absurd (by assumption) hg1
      · exact absurd (by assumption) hg2
      · exact absurd (by assumption) hg3
      split at h
      rotate_left
      · cases h
      rename_i st1 hp
      have K := ih M hMm _ _ _ _ _ _ h C0 (below := below) (e := e) (ls := ls) (H := H) (locs := locs) (cells := cells) (slots := slots) ⟨hw, hS, hl, hcel, hslo, hq0, hq0s⟩
      unfold q_lk at hp
      split at hp
      · cases hp
        simp only [q_ok5] at hok
        split at hok
        · simp only [decide_eq_true_eq] at hok
          obtain ⟨rfl, hlk⟩ := hok
          exact lv_ldc hx hb hown (hts _ (q_T_at hlk rfl)) hd K
        · simp only [decide_eq_true_eq] at hok
          obtain ⟨rfl, hlk⟩ := hok
          exact lv_ldcw hx hb hown (hts _ (q_T_at hlk rfl)) hd K
        · cases hok
      · cases hp
        simp only [q_ok5] at hok
        split at hok
        · simp only [decide_eq_true_eq] at hok
          obtain ⟨rfl, hlk⟩ := hok
          exact lv_ldc2 hx hb hown (hts _ (q_T_at hlk rfl)) hd K
        · cases hok
      · sorry
      · cases hp
end
section
/-! THE LAW's OWN WALK: as a method's, but for the script, which lies outside -/
theorem q_start {G : q_G} (hV : q_GV G) {args : Array Value} {s : State} (hts : ∀ w ∈ q_T G, w.before args s = true)
    (hty : ∀ (t : Nat) (ty : FieldType), (q_gA G)[t]? = some ty → ((∀ C, ty ≠ .object C) ∧ Cond.arrayClass ty ∈ q_T G) ∨ ∃ C, ty = .object C ∧ va_AO C s) : ∃ (D : va_G) (tc : Nat → ClassId), va_K D (q_gC G) (q_tyl G tc) s := by
  have h1 : ∀ ci : Nat, ∃ (cC : ClassId) (iS : Nat → Nat), ∀ q : vw_C, (q_gC G)[ci]? = some q → u_Kn s q.1 q.2.1 q.2.2 cC iS := by
    intro ci
    cases hc : (q_gC G)[ci]? with
    | none => exact ⟨0, fun _ => 0, fun q h => by cases h⟩
    | some z =>
      obtain ⟨C, T, N⟩ := z
      obtain ⟨cC, iS, h⟩ := u_known (C := C) (T := T) (N := N) (n := N) hts (hV.1 ci C T N hc).1 (hts _ (hV.1 ci C T N hc).2.2.2.1)
      exact ⟨cC, iS, fun q hq => by cases hq; exact h⟩
  have h2 : ∀ t : Nat, ∃ cA : ClassId, ∀ ty : FieldType, (q_gA G)[t]? = some ty → ArrOfT s cA ty ∧ va_RA s cA ty := by
    intro t
    cases ht : (q_gA G)[t]? with
    | none => exact ⟨0, fun q h => by cases h⟩
    | some ty =>
      rcases hty t ty ht with ⟨hno, hw⟩ | ⟨C, rfl, hao⟩
      · obtain ⟨cA, kA, comp, e1, e2, e3⟩ := Cond.arrayClass_spec (hts _ hw)
        refine ⟨cA, fun ty2 h => ?_⟩
        cases h
        refine ⟨fun n z => ⟨fun k h => (by cases h), kA, e2, comp, e3⟩, ?_⟩
        cases ty with
        | object C => exact absurd rfl (hno C)
        | _ => exact e1
      · obtain ⟨comp, cA, kA, e1, -, e2, e3, e4⟩ := Cond.arrayOver_spec (va_AO.use (A := args) hao)
        refine ⟨cA, fun ty2 h => ?_⟩
        cases h
        exact ⟨fun n z => ⟨fun k h => (by cases h), kA, e2, comp, e3⟩, kA, comp, e2, e3, e1, e4⟩
  refine ⟨(fun ci => Classical.choose (h1 ci), fun ci => Classical.choose (Classical.choose_spec (h1 ci))), fun t => Classical.choose (h2 t), ?_, ?_⟩
  · intro ci q hq
    exact Classical.choose_spec (Classical.choose_spec (h1 ci)) q hq
  · intro k q hk
    simp only [q_tyl, List.getElem?_mapIdx, Option.map_eq_some_iff] at hk
    obtain ⟨ty, h3, rfl⟩ := hk
    exact Classical.choose_spec (h2 k) ty h3
def q_scr (b L : Nat) (xs : Nat → Int32) (i : Instr) (st : List Value) : Option (List Value) := match i with
  | .iaload => (match st with | .int j :: .retAddr a :: r => if a = b ∧ q_in j L = true then some (.int (xs j.toNatClampNeg) :: r) else none | _ => none)
  | .arraylength => (match st with | .retAddr a :: r => if a = b then some (.int (Int32.ofNat L) :: r) else none | _ => none)
  | _ => none
/-- the law, purely: its answer and the memory -/
def q_lrun (G : q_G) (b L : Nat) (xs : Nat → Int32) (M : q_MI) : Nat → Nat → q_L → List Value → q_M → Option (Int32 × q_M)
  | 0, _, _, _, _ => none
  | n + 1, pc, l, st, m => match q_fd (q_mC M) pc with
    | none => none
    | some (_, _, len, i, _) => match q_grp i with
      | 0 => (match q_pure (q_mL M) pc len i l st with | some (pc1, l1, st1) => q_lrun G b L xs M n pc1 l1 st1 m | none => none)
      | 1 => (match q_scr b L xs i st with | some st1 => q_lrun G b L xs M n (pc + len) l st1 m | none => none)
      | 2 => (match q_new G i st m with | some (st1, x) => q_lrun G b L xs M n (pc + len) l st1 (m ++ [x]) | none => none)
      | 3 => (match q_cnum i with
          | some k => (match q_call G M k st m with
              | some (M1, as, rest) => (match q_run G n M1 0 (lv_args 0 as) [] m with | some (r, m1) => q_lrun G b L xs M n (pc + len) l (r.toList ++ rest) m1 | none => none)
              | none => none)
          | none => (match i, st with | .ireturn, [.int v] => some (v, m) | _, _ => none))
      | _ => (match q_lk i st with | some st1 => q_lrun G b L xs M n (pc + len) l st1 m | none => none)
theorem q_lmono {G : q_G} {b L : Nat} {xs : Nat → Int32} {M : q_MI} : ∀ (n pc : Nat) (lv : q_L) (st : List Value) (q : q_M) (v : Int32) (qF : q_M), q_lrun G b L xs M n pc lv st q = some (v, qF) → q.length ≤ qF.length ∧ q_sl q ≤ q_sl qF
  | 0, _, _, _, _, _, _, h => by simp [q_lrun] at h
  | n + 1, pc, lv, st, q, v, qF, h => by
    unfold q_lrun at h
    split at h
    · cases h
    · split at h
      · split at h
        · exact q_lmono n _ _ _ _ _ _ h
        · cases h
      · split at h
        · exact q_lmono n _ _ _ _ _ _ h
        · cases h
      · split at h
        · have h2 := q_lmono n _ _ _ _ _ _ h
          rw [q_sl_push, List.length_append] at h2
          exact ⟨by omega, by omega⟩
        · cases h
      · split at h
        · split at h
          · split at h
            · rename_i h1
              have h2 := q_lmono n _ _ _ _ _ _ h
              have h3 := q_mono n _ _ _ _ _ _ _ h1
              exact ⟨by omega, by omega⟩
            · cases h
          · cases h
        · split at h
          · cases h
            exact ⟨Nat.le_refl _, Nat.le_refl _⟩
          · cases h
      · split at h
        · exact q_lmono n _ _ _ _ _ _ h
        · cases h
section QLAW
variable {p : Program} {l : Launch} {e : Env} {R : Room} {s : State} {m : MethodId} {args : Array Value} {below : List Frame} {meth : Method} {c : Code} {Q : State → Prop}
variable {G : q_G} {D : va_G} {bs : Nat} {tc : Nat → ClassId}
theorem q_lmain (hV : q_GV G) (hM : ∀ M ∈ q_gM G, q_okM G M) {M : q_MI} (hC : q_okC G M = true) {b L : Nat} {xs : Nat → Int32} (hx : p.tables.exec = Jvm.exec) (hb : c.code = q_mB M) (hml : c.maxLocals = q_mL M) (hown : s.vm.findClass (q_mY M).cls = some m.cls) (hts : ∀ w ∈ q_T G, w.before args s = true) (hK : va_K D (q_gC G) (q_tyl G tc) s) (hN : q_Nst G s)
    (hsz : s.heap.size = bs) (hX : va_X b L xs s s.heap) (hbl : b < s.heap.size) (hRf : q_mF M = R.frames) (hRl : q_mO M = R.locals) {qF : q_M} {v : Int32} (hRc : qF.length ≤ R.cells) (hRs : q_sl qF ≤ R.slots)
    (fin : ∀ (pc : Nat) (H : Heap) (ls : Array Slot) (locs : List Loc), decode (q_mB M) pc = .ok (.ireturn, 1) → va_S (fun z => bs ≤ z) s.heap H locs → W p l e R s m args below meth c H locs qF.length (q_sl qF) Q (F0 m pc ls [.int v])) :
    ∀ (n pc : Nat) (lv : q_L) (st : List Value) (q : q_M), q_lrun G b L xs M n pc lv st q = some (v, qF) → ∀ {H : Heap} {locs : List Loc} {ls : Array Slot}, q_Wd D (q_gC G) bs tc q H → va_S (fun z => bs ≤ z) s.heap H locs → lv_has ls (q_mL M) (q_cl bs lv) →
      W p l e R s m args below meth c H locs q.length (q_sl q) Q (F0 m pc ls (st.map (q_cv bs))) := by
  intro n
  induction n with
  | zero => intro pc lv st q h; simp [q_lrun] at h
  | succ n ih =>
    intro pc lv st q h H locs ls hw hS hl
    have hsz0 : s.heap.size = bs + ([] : q_M).length := by simpa using hsz
    unfold q_lrun at h
    split at h
    · cases h
    rename_i I pc0 raw len i pos hfd
    obtain ⟨hI, hpc⟩ := q_fd_mem hfd
    simp only at hpc
    subst hpc
    have hok := List.all_eq_true.mp hC _ hI
    simp only [Bool.and_eq_true, decide_eq_true_eq, q_okI] at hok
    obtain ⟨hd, hok⟩ := hok
    split at h
    · rename_i hg
      rw [hg] at hok
      split at h
      rotate_left
      · cases h
      rename_i pc1 l1 st1 hp
      exact q_pureW hx hb hd hok hl hp (fun ls1 hl1 => ih _ _ _ _ h hw hS hl1)
    · rename_i hg
      rw [hg] at hok
      split at h
      rotate_left
      · cases h
      rename_i st1 hp
      have hbA : ¬ (fun z => bs ≤ z) b := by simp only; omega
      unfold q_scr at hp
      split at hp
      · simp only [q_ok2, decide_eq_true_eq] at hok
        obtain ⟨rfl, rfl, -⟩ := hok
        split at hp
        rotate_left
        · cases hp
        rename_i j a r
        split at hp
        rotate_left
        · cases hp
        rename_i hc
        obtain ⟨rfl, hin⟩ := hc
        cases hp
        exact va_sld (A := fun z => bs ≤ z) hx hb hX hbl hbA hS (q_in_vp hin) hd (ih _ _ _ _ h hw hS hl)
      · simp only [q_ok2, decide_eq_true_eq] at hok
        obtain ⟨rfl, rfl⟩ := hok
        split at hp
        rotate_left
        · cases hp
        rename_i a r
        split at hp
        rotate_left
        · cases hp
        rename_i hc
        subst hc
        cases hp
        exact va_slen (A := fun z => bs ≤ z) hx hb hX hbl hbA hS hd (ih _ _ _ _ h hw hS hl)
      · cases hp
    · rename_i hg
      rw [hg] at hok
      split at h
      rotate_left
      · cases h
      rename_i st1 x hp
      have hm2 := q_lmono n _ _ _ _ _ _ h
      rw [q_sl_push, List.length_append] at hm2
      have hm3 : q.length + 1 ≤ qF.length := hm2.1
      refine q_sized (fun hup => ?_)
      have hlow := q_low hw hS hsz0
      have hzz : H.size = bs + q.length := by omega
      refine q_newW hx hb hV hown hts hK hN.2 hd hok hw hS hzz hp (by omega) (by omega) (fun H1 hw1 hS1 => ?_)
      have K := ih _ _ _ _ h hw1 hS1 hl
      rw [q_sl_push, List.length_append] at K
      exact K
    · rename_i hg
      rw [hg] at hok
      split at h
      · rename_i k hk
        split at h
        rotate_left
        · cases h
        rename_i M1 as rest hcall
        split at h
        rotate_left
        · cases h
        rename_i r1 q1 hrun
        have hMs : M1 ∈ q_gM G := by
          unfold q_call at hcall
          split at hcall
          · cases hcall
          rename_i M3 hM3
          split at hcall
          · cases hcall
            exact List.mem_of_getElem? hM3
          · cases hcall
        have hokM := hM M1 hMs
        have hm1 := q_mono n _ _ _ _ _ _ _ hrun
        have hm2 := q_lmono n _ _ _ _ _ _ h
        refine q_sized (fun hup => ?_)
        have hlow := q_low hw hS hsz0
        have hzz : H.size = bs + q.length := by omega
        refine q_invW hx hb hml hown hts hK hN hokM hRf hRl hd hok hk hcall (fun hcas => q_metI hokM hm1 hcas (fun C X => q_main hV hM l D bs tc n M1 hMs _ _ _ _ _ _ hrun C X)) hw hS hl hzz ⟨by omega, by omega⟩ (fun H1 locs1 hw1 hS1 => ?_)
        have K := ih _ _ _ _ h hw1 hS1 hl
        rw [show q.length + (q1.length - q.length) = q1.length by omega, show q_sl q + (q_sl q1 - q_sl q) = q_sl q1 by omega]
        exact K
      · split at h
        rotate_left
        · cases h
        have e0 := Option.some.inj h
        have e1 := congrArg Prod.fst e0
        have e2 : q = qF := congrArg Prod.snd e0
        simp only at e1
        subst e1
        subst e2
        simp only [q_ok4, decide_eq_true_eq] at hok
        obtain ⟨rfl, rfl⟩ := hok
        exact fin _ H ls locs hd hS
    · rename_i hg0 hg1 hg2 hg3
      split at hok
      · exact absurd (by assumption) hg0
      · exact absurd (by assumption) hg1
      · exact absurd (by assumption) hg2
      · exact absurd (by assumption) hg3
      split at h
      rotate_left
      · cases h
      rename_i st1 hp
      have K := ih _ _ _ _ h hw hS hl
      unfold q_lk at hp
      split at hp
      · cases hp
        simp only [q_ok5] at hok
        split at hok
        · simp only [decide_eq_true_eq] at hok
          obtain ⟨rfl, hlk⟩ := hok
          exact lv_ldc hx hb hown (hts _ (q_T_at hlk rfl)) hd K
        · simp only [decide_eq_true_eq] at hok
          obtain ⟨rfl, hlk⟩ := hok
          exact lv_ldcw hx hb hown (hts _ (q_T_at hlk rfl)) hd K
        · cases hok
      · cases hp
        simp only [q_ok5] at hok
        split at hok
        · simp only [decide_eq_true_eq] at hok
          obtain ⟨rfl, hlk⟩ := hok
          exact lv_ldc2 hx hb hown (hts _ (q_T_at hlk rfl)) hd K
        · cases hok
      · sorry
      · cases hp
end QLAW
end
section
/-! decoding by a window of the bytes: what a reader takes out of a part, it takes out of the whole -/
def z_S (all w : ByteArray) (n : Nat) {α : Type} (r1 r2 : Decoder α) : Prop := ∀ (pos : Nat) (a : α) (q : Nat), r2.runAt w pos = .ok (a, q) → r1.runAt all (n + pos) = .ok (a, n + q)
theorem z_pure {all w : ByteArray} {n : Nat} {α : Type} (a : α) : z_S all w n (pure a) (pure a) := by
  intro pos x q h
  have h1 : (Except.ok (a, pos) : Except DecodeError (α × Nat)) = .ok (x, q) := h
  cases h1
  rfl
theorem z_bind {all w : ByteArray} {n : Nat} {α β : Type} {r1 r2 : Decoder α} {f1 f2 : α → Decoder β} (h : z_S all w n r1 r2) (hf : ∀ a, z_S all w n (f1 a) (f2 a)) : z_S all w n (r1 >>= f1) (r2 >>= f2) := by
  intro pos x q hh
  have e2 : (r2 >>= f2).runAt w pos = (r2.runAt w pos) >>= fun z => (f2 z.1).runAt w z.2 := rfl
  have e1 : (r1 >>= f1).runAt all (n + pos) = (r1.runAt all (n + pos)) >>= fun z => (f1 z.1).runAt all z.2 := rfl
  rw [e2] at hh
  rw [e1]
  cases hr : r2.runAt w pos with
  | error z => rw [hr] at hh; cases hh
  | ok z =>
    obtain ⟨a, p⟩ := z
    rw [hr] at hh
    rw [h pos a p hr]
    exact hf a p x q hh
theorem z_map {all w : ByteArray} {n : Nat} {α β : Type} {r1 r2 : Decoder α} {f : α → β} (h : z_S all w n r1 r2) : z_S all w n (f <$> r1) (f <$> r2) := by
  intro pos x q hh
  have e2 : (f <$> r2).runAt w pos = (r2.runAt w pos) >>= fun z => .ok (f z.1, z.2) := rfl
  have e1 : (f <$> r1).runAt all (n + pos) = (r1.runAt all (n + pos)) >>= fun z => .ok (f z.1, z.2) := rfl
  rw [e2] at hh
  rw [e1]
  cases hr : r2.runAt w pos with
  | error z => rw [hr] at hh; cases hh
  | ok z =>
    obtain ⟨a, p⟩ := z
    rw [hr] at hh
    rw [h pos a p hr]
    cases hh
    rfl
def z_In (all w : ByteArray) (n : Nat) : Prop := ∀ i, (hi : i < w.size) → ∃ hj : n + i < all.size, all[n + i] = w[i]
theorem z_u1at (w : ByteArray) (pos : Nat) : (Reader.u1 : Decoder Nat).runAt w pos = if h : pos < w.size then .ok (w[pos].toNat, pos + 1) else .error (HasTruncated.truncated pos) := by
  have e : (Reader.u1 : Decoder Nat).runAt w pos = (dite (pos < w.size) (fun h => (fun (_ : ByteArray) (_ : Nat) => (Except.ok (w[pos].toNat, pos + 1) : Except DecodeError (Nat × Nat)))) (fun _ => fun _ _ => .error (HasTruncated.truncated pos))) w pos := by
    by_cases hp : pos < w.size
    · rw [dif_pos hp]
      show (dite (pos < w.size) _ _ : Decoder Nat) w pos = _
      rw [dif_pos hp]
      rfl
    · rw [dif_neg hp]
      show (dite (pos < w.size) _ _ : Decoder Nat) w pos = _
      rw [dif_neg hp]
      rfl
  rw [e]
  split <;> rfl
theorem z_u1 {all w : ByteArray} {n : Nat} (h : z_In all w n) : z_S all w n (Reader.u1 : Decoder Nat) Reader.u1 := by
  intro pos x q hh
  rw [z_u1at] at hh
  rw [z_u1at]
  by_cases hp : pos < w.size
  · rw [dif_pos hp] at hh
    cases hh
    obtain ⟨hj, he⟩ := h pos hp
    rw [dif_pos hj, he]
    rfl
  · rw [dif_neg hp] at hh
    cases hh
theorem z_u2 {all w : ByteArray} {n : Nat} (h : z_In all w n) : z_S all w n (Reader.u2 : Decoder Nat) Reader.u2 := z_bind (z_u1 h) (fun a => z_bind (z_u1 h) (fun b => z_pure _))
theorem z_s1 {all w : ByteArray} {n : Nat} (h : z_In all w n) : z_S all w n (Reader.s1 : Decoder Int) Reader.s1 := z_map (z_u1 h)
theorem z_s2 {all w : ByteArray} {n : Nat} (h : z_In all w n) : z_S all w n (Reader.s2 : Decoder Int) Reader.s2 := z_map (z_u2 h)
theorem z_err {all w : ByteArray} {n : Nat} {α : Type} {r1 : Decoder α} (e1 : DecodeError) : z_S all w n r1 (fun _ _ => .error e1) := by
  intro pos x q hh
  cases hh
def z_sw (b : Nat) : Bool := b == 170 || b == 171 || b == 185 || b == 186 || b == 188 || b == 196 || b == 197 || b == 200 || b == 201
theorem z_bind0 {all w : ByteArray} {n : Nat} {β : Type} {f1 f2 : Nat → Decoder β} (h : z_In all w n) (hw : ∀ (hi : 0 < w.size), z_sw w[0].toNat = false) (hf : ∀ a, z_sw a = false → z_S all w n (f1 a) (f2 a)) {x : β} {q : Nat} (hh : ((Reader.u1 : Decoder Nat) >>= f2).runAt w 0 = .ok (x, q)) : ((Reader.u1 : Decoder Nat) >>= f1).runAt all n = .ok (x, n + q) := by
  have e2 : ((Reader.u1 : Decoder Nat) >>= f2).runAt w 0 = ((Reader.u1 : Decoder Nat).runAt w 0) >>= fun z => (f2 z.1).runAt w z.2 := rfl
  have e1 : ((Reader.u1 : Decoder Nat) >>= f1).runAt all (n + 0) = ((Reader.u1 : Decoder Nat).runAt all (n + 0)) >>= fun z => (f1 z.1).runAt all z.2 := rfl
  rw [e2] at hh
  show ((Reader.u1 : Decoder Nat) >>= f1).runAt all (n + 0) = _
  rw [e1]
  cases hr : (Reader.u1 : Decoder Nat).runAt w 0 with
  | error z => rw [hr] at hh; cases hh
  | ok z =>
    obtain ⟨a, p⟩ := z
    have ha : z_sw a = false := by
      rw [z_u1at] at hr
      by_cases hp : 0 < w.size
      · rw [dif_pos hp] at hr
        cases hr
        exact hw hp
      · rw [dif_neg hp] at hr
        cases hr
    rw [hr] at hh
    rw [z_u1 h 0 a p hr]
    exact hf a ha p x q hh
set_option maxHeartbeats 40000000 in
set_option maxRecDepth 100000 in
theorem z_instr {all w : ByteArray} {n pc : Nat} (h : z_In all w n) (hw : ∀ (hi : 0 < w.size), z_sw w[0].toNat = false) {a : Instr} {q : Nat} (hh : (Decoder.instr 0).runAt w 0 = .ok (a, q)) : (Decoder.instr pc).runAt all n = .ok (a, n + q) := by
  unfold Decoder.instr at hh ⊢
  refine z_bind0 h hw (fun op hop => ?_) hh
  split
  all_goals first
    | exact z_pure _
    | exact z_err _
    | exact z_bind (z_u1 h) (fun _ => z_pure _)
    | exact z_bind (z_u2 h) (fun _ => z_pure _)
    | exact z_bind (z_s1 h) (fun _ => z_pure _)
    | exact z_bind (z_s2 h) (fun _ => z_pure _)
    | exact z_bind (z_u1 h) (fun _ => z_bind (z_s1 h) (fun _ => z_pure _))
    | exact absurd hop (by decide)
theorem z_decode {all w : ByteArray} {n : Nat} (h : z_In all w n) (hw : ∀ (hi : 0 < w.size), z_sw w[0].toNat = false) {a : Instr} {q : Nat} (hh : decode w 0 = .ok (a, q)) : decode all n = .ok (a, q) := by
  have e2 : decode w 0 = (Decoder.instr 0).runAt w 0 >>= fun z => .ok (z.1, z.2 - 0) := rfl
  have e1 : decode all n = (Decoder.instr n).runAt all n >>= fun z => .ok (z.1, z.2 - n) := rfl
  rw [e2] at hh
  rw [e1]
  cases hr : (Decoder.instr 0).runAt w 0 with
  | error z => rw [hr] at hh; cases hh
  | ok z =>
    obtain ⟨b, p⟩ := z
    rw [hr] at hh
    rw [z_instr (pc := n) h hw hr]
    cases hh
    show (Except.ok (b, n + p - n) : Except DecodeError (Instr × Nat)) = .ok (b, p - 0)
    rw [Nat.add_sub_cancel_left, Nat.sub_zero]
end
section
/-- the rows of a code table against the bytes, one walk through them -/
def z_rows (all : ByteArray) : Nat → List UInt8 → List q_I → Bool
  | _, _, [] => true
  | cur, l, I :: C => decide (cur ≤ I.1) && (match l.drop (I.1 - cur) with
    | [] => false
    | b :: r => (match z_sw b.toNat with
      | true => decide (decode all I.1 = .ok (I.2.1, I.2.2.1))
      | false => decide (decode ⟨((b :: r).take 5).toArray⟩ 0 = .ok (I.2.1, I.2.2.1))) && z_rows all I.1 (b :: r) C)
theorem z_win {all : ByteArray} {n : Nat} {l : List UInt8} (h : all.data.toList.drop n = l) : z_In all ⟨(l.take 5).toArray⟩ n := by
  intro i hi
  have hi2 : i < (l.take 5).length := by
    simpa [ByteArray.size] using hi
  have hl : i < l.length := by
    rw [List.length_take] at hi2
    omega
  have hj : n + i < all.data.toList.length := by
    rw [← h, List.length_drop] at hl
    omega
  refine ⟨by have h9 := hj; rw [Array.length_toList] at h9; exact h9, ?_⟩
  show all.data[n + i]'(by simpa using hj) = ((l.take 5).toArray)[i]'(by simpa using hi2)
  have e1 : all.data[n + i]'(by simpa using hj) = all.data.toList[n + i]'hj := by simp
  have e2 : ((l.take 5).toArray)[i]'(by simpa using hi2) = l[i]'hl := by simp [List.getElem_take]
  rw [e1, e2]
  subst h
  simp [List.getElem_drop]
theorem z_rows_ok {all : ByteArray} : ∀ (C : List q_I) (cur : Nat) (l : List UInt8), all.data.toList.drop cur = l → z_rows all cur l C = true → ∀ I ∈ C, decode all I.1 = .ok (I.2.1, I.2.2.1)
  | [], _, _, _, _, I, hI => by cases hI
  | J :: C, cur, l, hl, h, I, hI => by
    simp only [z_rows, Bool.and_eq_true, decide_eq_true_eq] at h
    obtain ⟨hc, h⟩ := h
    have hd : all.data.toList.drop J.1 = l.drop (J.1 - cur) := by
      rw [← hl, List.drop_drop]
      congr 1
      omega
    split at h
    · cases h
    · rename_i b r hbr
      rw [hbr] at hd
      simp only [Bool.and_eq_true] at h
      obtain ⟨h1, h2⟩ := h
      have key : decode all J.1 = .ok (J.2.1, J.2.2.1) := by
        split at h1
        · exact of_decide_eq_true h1
        · rename_i hsw
          refine z_decode (z_win hd) (fun hi => ?_) (of_decide_eq_true h1)
          have : (ByteArray.mk ((b :: r).take 5).toArray)[0]'hi = b := by
            show (((b :: r).take 5).toArray)[0]'(by simp) = b
            simp
          rw [this]
          exact hsw
      rcases List.mem_cons.mp hI with rfl | hI
      · exact key
      · exact z_rows_ok C J.1 (b :: r) hd h2 I hI
def z_okC (G : q_G) (M : q_MI) : Bool := z_rows (q_mB M) 0 (q_mB M).data.toList (q_mC M) && (q_mC M).all (fun I => q_okI G (q_mY M).cls (q_mK M) I)
theorem z_okC_ok {G : q_G} {M : q_MI} (h : z_okC G M = true) : q_okC G M = true := by
  simp only [z_okC, Bool.and_eq_true] at h
  refine List.all_eq_true.mpr (fun I hI => ?_)
  simp only [Bool.and_eq_true, decide_eq_true_eq]
  exact ⟨z_rows_ok _ 0 _ (by simp) h.1 I hI, List.all_eq_true.mp h.2 I hI⟩
end
section
/-! THE ABSTRACT MACHINE: numbers by bounds of variables, cells exact in shape; every path is followed -/
abbrev a_N : Type := Bool × Option Nat × Int
abbrev a_V : Type := a_N ⊕ (Option Nat ⊕ Unit)
abbrev a_B : Type := List (Nat × Int × Int)
abbrev a_L : Type := List (Nat × a_V)
abbrev a_A : Type := Nat × Nat × ((Int × Int) ⊕ List a_N ⊕ Unit ⊕ List (Option Nat))
abbrev a_C : Type := a_A ⊕ (Nat × List a_V)
abbrev a_F : Type := q_MI × List q_I × a_L × List a_V
abbrev a_K : Type := Nat × a_B × List (a_N × a_N) × List a_F × List a_C
def a_rng (lg : Bool) : Int × Int := match lg with
  | true => (-9223372036854775808, 9223372036854775807)
  | false => (-2147483648, 2147483647)
def a_bd (B : a_B) (i : Nat) : Option (Int × Int) := match B with
  | [] => none
  | q :: B => match Nat.beq q.1 i with
    | true => some q.2
    | false => a_bd B i
def a_mx (a b : Int) : Int := if a ≤ b then b else a
def a_mn (a b : Int) : Int := if a ≤ b then a else b
def a_iv (B : a_B) (v : a_N) : Int × Int := match v.2.1 with
  | none => (v.2.2, v.2.2)
  | some i => match a_bd B i with
    | none => a_rng v.1
    | some q => (a_mx (q.1 + v.2.2) (a_rng v.1).1, a_mn (q.2 + v.2.2) (a_rng v.1).2)
/-- a number that is new, between two -/
def a_new (k : Nat) (B : a_B) (lg : Bool) (lo hi : Int) : Nat × a_B × a_N := (k + 1, (k, lo, hi) :: B, (lg, some k, 0))
def a_top (k : Nat) (B : a_B) (lg : Bool) : Nat × a_B × a_N := a_new k B lg (a_rng lg).1 (a_rng lg).2
/-- bounds made narrower by what is known of a number -/
def a_rf (B : a_B) (x : a_N) (lo hi : Int) : a_B := match x.2.1 with
  | none => B
  | some i => match a_bd B i with
    | none => (i, lo - x.2.2, hi - x.2.2) :: B
    | some q => (i, a_mx q.1 (lo - x.2.2), a_mn q.2 (hi - x.2.2)) :: B
def a_opp (c : Jvm.ClassFile.Cond) : Jvm.ClassFile.Cond := match c with
  | .eq => .ne
  | .ne => .eq
  | .lt => .ge
  | .ge => .lt
  | .gt => .le
  | .le => .gt
/-- what x c y says of x, by y's bounds b and x's own a -/
def a_lim (c : Jvm.ClassFile.Cond) (a b : Int × Int) : Int × Int := match c with
  | .eq => b
  | .ne => (if b.1 = b.2 ∧ a.1 = b.1 then (a.1 + 1, a.2) else if b.1 = b.2 ∧ a.2 = b.1 then (a.1, a.2 - 1) else a)
  | .lt => (a.1, b.2 - 1)
  | .ge => (b.1, a.2)
  | .gt => (b.1 + 1, a.2)
  | .le => (a.1, b.2)
def a_swp (c : Jvm.ClassFile.Cond) : Jvm.ClassFile.Cond := match c with
  | .eq => .eq
  | .ne => .ne
  | .lt => .gt
  | .ge => .le
  | .gt => .lt
  | .le => .ge
/-- bounds under x c y; none: it can't be -/
def a_asm (B : a_B) (c : Jvm.ClassFile.Cond) (x y : a_N) : Option a_B :=
  let a := a_iv B x
  let b := a_iv B y
  let p := a_lim c a b
  let q := a_lim (a_swp c) b a
  if a_mx a.1 p.1 ≤ a_mn a.2 p.2 ∧ a_mx b.1 q.1 ≤ a_mn b.2 q.2 then some (a_rf (a_rf B x p.1 p.2) y q.1 q.2) else none
def a_bin32 (k : Nat) (B : a_B) (op : Int32 → Int32 → Int32) (iv : Int × Int → Int × Int → Int × Int) (x y : a_N) : Nat × a_B × a_N :=
  let a := a_iv B x
  let b := a_iv B y
  if a.1 = a.2 ∧ b.1 = b.2 then (k, B, (false, none, (op (Int32.ofInt a.1) (Int32.ofInt b.1)).toInt)) else a_new k B false (iv a b).1 (iv a b).2
def a_bin64 (k : Nat) (B : a_B) (op : Int64 → Int64 → Int64) (iv : Int × Int → Int × Int → Int × Int) (x y : a_N) : Nat × a_B × a_N :=
  let a := a_iv B x
  let b := a_iv B y
  if a.1 = a.2 ∧ b.1 = b.2 then (k, B, (true, none, (op (Int64.ofInt a.1) (Int64.ofInt b.1)).toInt)) else a_new k B true (iv a b).1 (iv a b).2
def a_all32 (_ _ : Int × Int) : Int × Int := (-2147483648, 2147483647)
def a_all64 (_ _ : Int × Int) : Int × Int := (-9223372036854775808, 9223372036854775807)
/-- sums within the type's bounds, else anything -/
def a_sum (lg : Bool) (a b : Int × Int) : Int × Int := if (a_rng lg).1 ≤ a.1 + b.1 ∧ a.2 + b.2 ≤ (a_rng lg).2 then (a.1 + b.1, a.2 + b.2) else a_rng lg
def a_dif (lg : Bool) (a b : Int × Int) : Int × Int := if (a_rng lg).1 ≤ a.1 - b.2 ∧ a.2 - b.1 ≤ (a_rng lg).2 then (a.1 - b.2, a.2 - b.1) else a_rng lg
def a_mul (a b : Int × Int) : Int × Int := if 0 ≤ a.1 ∧ 0 ≤ b.1 ∧ a.2 * b.2 ≤ 2147483647 then (a.1 * b.1, a.2 * b.2) else (-2147483648, 2147483647)
def a_msk (a b : Int × Int) : Int × Int := if 0 ≤ b.1 then (0, b.2) else if 0 ≤ a.1 then (0, a.2) else (-2147483648, 2147483647)
def a_shr (a _ : Int × Int) : Int × Int := if 0 ≤ a.1 then (0, a.2) else (a.1, a_mx a.2 (-1))
def a_shf (B : a_B) (lg : Bool) (x : a_N) (d : Int) : Option a_N := if (a_rng lg).1 ≤ (a_iv B x).1 + d ∧ (a_iv B x).2 + d ≤ (a_rng lg).2 then some (lg, x.2.1, x.2.2 + d) else none
def a_add (k : Nat) (B : a_B) (x y : a_N) : Nat × a_B × a_N := match y.2.1, a_shf B false x y.2.2 with
  | none, some z => (k, B, z)
  | _, _ => a_bin32 k B (fun x y => x + y) (a_sum false) x y
def a_sub (k : Nat) (B : a_B) (x y : a_N) : Nat × a_B × a_N := match y.2.1, a_shf B false x (- y.2.2) with
  | none, some z => (k, B, z)
  | _, _ => a_bin32 k B (fun x y => x - y) (a_dif false) x y
abbrev a_P : Type := Nat × a_B × Nat × a_L × List a_V
def a_get (l : a_L) (k : Nat) : Option a_V := match l with
  | [] => none
  | q :: l => match Nat.beq q.1 k with
    | true => some q.2
    | false => a_get l k
def a_cat (v : a_V) : Nat := match v with
  | .inl (true, _, _) => 2
  | _ => 1
def a_s1 (l : a_L) (i : Nat) (v : a_V) : a_L := (i, v) :: l.filter (fun q => !(q.1 == i) && !(q.1 + 1 == i && a_cat q.2 == 2))
def a_s2 (l : a_L) (i : Nat) (v : a_V) : a_L := (i, v) :: l.filter (fun q => !(q.1 == i) && (!(q.1 == i + 1) && !(q.1 + 1 == i && a_cat q.2 == 2)))
/-- one number off: its place -/
def a_num (z : Nat × a_B × a_N) (pc : Nat) (l : a_L) (r : List a_V) : Option (List a_P) := some [(z.1, z.2.1, pc, l, .inl z.2.2 :: r)]
def a_arm (o : Option a_B) (k pc : Nat) (l : a_L) (st : List a_V) : List a_P := match o with
  | some B => [(k, B, pc, l, st)]
  | none => []
/-- the paths of a comparison; unlike: less, or greater -/
def a_pth (k : Nat) (B : a_B) (c : Jvm.ClassFile.Cond) (x y : a_N) (pc : Nat) (l : a_L) (r : List a_V) : List a_P := match c with
  | .ne => a_arm (a_asm B .lt x y) k pc l r ++ a_arm (a_asm B .gt x y) k pc l r
  | c => a_arm (a_asm B c x y) k pc l r
def a_br (k : Nat) (B : a_B) (pc len : Nat) (off : Int) (c : Jvm.ClassFile.Cond) (x y : a_N) (l : a_L) (r : List a_V) : Option (List a_P) :=
  if 0 ≤ (pc : Int) + off then some (a_pth k B c x y ((pc : Int) + off).toNat l r ++ a_pth k B (a_opp c) x y (pc + len) l r) else none
def a_to (k : Nat) (o : Option a_B) (pc : Nat) (off : Int) (l : a_L) (st : List a_V) : Option (List a_P) := match o with
  | none => some []
  | some B => if 0 ≤ (pc : Int) + off then some [(k, B, ((pc : Int) + off).toNat, l, st)] else none
def a_cats2 (x : Option (List a_P)) (y : Option (List a_P)) : Option (List a_P) := match x, y with
  | some a, some b => some (a ++ b)
  | _, _ => none
def a_tab (k : Nat) (B : a_B) (pc : Nat) (x : a_N) (l : a_L) (r : List a_V) : Int → List Int → Option (List a_P)
  | _, [] => some []
  | j, off :: offs => a_cats2 (a_to k (a_asm B .eq x (false, none, j)) pc off l r) (a_tab k B pc x l r (j + 1) offs)
def a_lkp (k : Nat) (pc : Nat) (x : a_N) (l : a_L) (r : List a_V) (d : Int) : Option a_B → List (Int × Int) → Option (List a_P)
  | none, _ => some []
  | some B, [] => a_to k (some B) pc d l r
  | some B, p :: ps => a_cats2 (a_to k (a_asm B .eq x (false, none, p.1)) pc p.2 l r) (a_lkp k pc x l r d (a_asm B .ne x (false, none, p.1)) ps)
def a_pure (k : Nat) (B : a_B) (nL pc len : Nat) (i : Instr) (l : a_L) (st : List a_V) : Option (List a_P) := match i with
  | .iconst n => some [(k, B, pc + len, l, .inl (false, none, (Int32.ofInt n).toInt) :: st)]
  | .goto_w n => some [(k, B, pc + len, l, .inl (true, none, (Int64.ofInt n).toInt) :: st)]
  | .iload j => (match a_get l j with | some (.inl (false, o, c)) => some [(k, B, pc + len, l, .inl (false, o, c) :: st)] | _ => none)
  | .lload j => (match a_get l j with | some (.inl (true, o, c)) => some [(k, B, pc + len, l, .inl (true, o, c) :: st)] | _ => none)
  | .aload j => (match a_get l j with | some (.inr (.inl (some a))) => some [(k, B, pc + len, l, .inr (.inl (some a)) :: st)] | some (.inr (.inr u)) => some [(k, B, pc + len, l, .inr (.inr u) :: st)] | _ => none)
  | .istore j => (match st with | .inl (false, o, c) :: r => if j < nL then some [(k, B, pc + len, a_s1 l j (.inl (false, o, c)), r)] else none | _ => none)
  | .astore j => (match st with | .inr (.inl (some a)) :: r => if j < nL then some [(k, B, pc + len, a_s1 l j (.inr (.inl (some a))), r)] else none | _ => none)
  | .lstore j => (match st with | .inl (true, o, c) :: r => if j + 1 < nL then some [(k, B, pc + len, a_s2 l j (.inl (true, o, c)), r)] else none | _ => none)
  | .iinc j n => (match a_get l j with | some (.inl (false, o, c)) => if j < nL then (match a_add k B (false, o, c) (false, none, (Int32.ofInt n).toInt) with | (k1, B1, z) => some [(k1, B1, pc + len, a_s1 l j (.inl z), st)]) else none | _ => none)
  | .iadd => (match st with | .inl (false, y) :: .inl (false, x) :: r => a_num (a_add k B (false, x) (false, y)) (pc + len) l r | _ => none)
  | .isub => (match st with | .inl (false, y) :: .inl (false, x) :: r => a_num (a_sub k B (false, x) (false, y)) (pc + len) l r | _ => none)
  | .imul => (match st with | .inl (false, y) :: .inl (false, x) :: r => a_num (a_bin32 k B (fun x y => x * y) a_mul (false, x) (false, y)) (pc + len) l r | _ => none)
  | .iand => (match st with | .inl (false, y) :: .inl (false, x) :: r => a_num (a_bin32 k B (fun x y => x &&& y) a_msk (false, x) (false, y)) (pc + len) l r | _ => none)
  | .ior => (match st with | .inl (false, y) :: .inl (false, x) :: r => a_num (a_bin32 k B (fun x y => x ||| y) a_all32 (false, x) (false, y)) (pc + len) l r | _ => none)
  | .ixor => (match st with | .inl (false, y) :: .inl (false, x) :: r => a_num (a_bin32 k B (fun x y => x ^^^ y) a_all32 (false, x) (false, y)) (pc + len) l r | _ => none)
  | .ishl => (match st with | .inl (false, y) :: .inl (false, x) :: r => a_num (a_bin32 k B (fun x y => x <<< (y &&& 31)) a_all32 (false, x) (false, y)) (pc + len) l r | _ => none)
  | .ishr => (match st with | .inl (false, y) :: .inl (false, x) :: r => a_num (a_bin32 k B (fun x y => x >>> (y &&& 31)) a_shr (false, x) (false, y)) (pc + len) l r | _ => none)
  | .iushr => (match st with | .inl (false, y) :: .inl (false, x) :: r => a_num (a_bin32 k B (fun x y => (x.toUInt32 >>> (y.toUInt32 &&& Int32.toUInt32 31)).toInt32) a_all32 (false, x) (false, y)) (pc + len) l r | _ => none)
  | .idiv => (match st with | .inl (false, y) :: .inl (false, x) :: r => if 0 < (a_iv B (false, y)).1 ∨ (a_iv B (false, y)).2 < 0 then a_num (a_bin32 k B (fun x y => x / y) a_all32 (false, x) (false, y)) (pc + len) l r else none | _ => none)
  | .irem => (match st with | .inl (false, y) :: .inl (false, x) :: r => if 0 < (a_iv B (false, y)).1 ∨ (a_iv B (false, y)).2 < 0 then a_num (a_bin32 k B (fun x y => x - x / y * y) a_all32 (false, x) (false, y)) (pc + len) l r else none | _ => none)
  | .ladd => (match st with | .inl (true, y) :: .inl (true, x) :: r => a_num (a_bin64 k B (fun x y => x + y) (a_sum true) (true, x) (true, y)) (pc + len) l r | _ => none)
  | .lsub => (match st with | .inl (true, y) :: .inl (true, x) :: r => a_num (a_bin64 k B (fun x y => x - y) (a_dif true) (true, x) (true, y)) (pc + len) l r | _ => none)
  | .lmul => (match st with | .inl (true, y) :: .inl (true, x) :: r => a_num (a_bin64 k B (fun x y => x * y) a_all64 (true, x) (true, y)) (pc + len) l r | _ => none)
  | .land => (match st with | .inl (true, _) :: .inl (true, _) :: r => a_num (a_top k B true) (pc + len) l r | _ => none)
  | .lor => (match st with | .inl (true, _) :: .inl (true, _) :: r => a_num (a_top k B true) (pc + len) l r | _ => none)
  | .lshl => (match st with | .inl (false, _) :: .inl (true, _) :: r => a_num (a_top k B true) (pc + len) l r | _ => none)
  | .lshr => (match st with | .inl (false, _) :: .inl (true, _) :: r => a_num (a_top k B true) (pc + len) l r | _ => none)
  | .i2l => (match st with | .inl (false, x) :: r => some [(k, (match x.1 with | some _ => a_rf B (false, x) (a_iv B (false, x)).1 (a_iv B (false, x)).2 | none => B), pc + len, l, .inl (true, x) :: r)] | _ => none)
  | .l2i => (match st with | .inl (true, x) :: r => if -2147483648 ≤ (a_iv B (true, x)).1 ∧ (a_iv B (true, x)).2 ≤ 2147483647 then some [(k, B, pc + len, l, .inl (false, x) :: r)] else a_num (a_top k B false) (pc + len) l r | _ => none)
  | .i2b => (match st with | .inl (false, x) :: r => if -128 ≤ (a_iv B (false, x)).1 ∧ (a_iv B (false, x)).2 ≤ 127 then some [(k, B, pc + len, l, .inl (false, x) :: r)] else a_num (a_new k B false (-128) 127) (pc + len) l r | _ => none)
  | .i2s => (match st with | .inl (false, x) :: r => if -32768 ≤ (a_iv B (false, x)).1 ∧ (a_iv B (false, x)).2 ≤ 32767 then some [(k, B, pc + len, l, .inl (false, x) :: r)] else a_num (a_new k B false (-32768) 32767) (pc + len) l r | _ => none)
  | .ineg => (match st with | .inl (false, x) :: r => a_num (a_bin32 k B (fun x y => - y) a_all32 (false, none, 0) (false, x)) (pc + len) l r | _ => none)
  | .lcmp => (match st with | .inl (true, y) :: .inl (true, x) :: r => some (a_arm (a_asm B .lt (true, x) (true, y)) k (pc + len) l (.inl (false, none, -1) :: r) ++ a_arm (a_asm B .eq (true, x) (true, y)) k (pc + len) l (.inl (false, none, 0) :: r) ++ a_arm (a_asm B .gt (true, x) (true, y)) k (pc + len) l (.inl (false, none, 1) :: r)) | _ => none)
  | .dup => (match st with | v :: r => if a_cat v = 1 then some [(k, B, pc + len, l, v :: v :: r)] else none | _ => none)
  | .pop => (match st with | v :: r => if a_cat v = 1 then some [(k, B, pc + len, l, r)] else none | _ => none)
  | .dup2 => (match st with | a :: b :: r => if a_cat a = 1 ∧ a_cat b = 1 then some [(k, B, pc + len, l, a :: b :: a :: b :: r)] else none | _ => none)
  | .pop2 => (match st with | a :: r => if a_cat a = 2 then some [(k, B, pc + len, l, r)] else none | _ => none)
  | .ifCond c off => (match st with | .inl (false, x) :: r => a_br k B pc len off c (false, x) (false, none, 0) l r | _ => none)
  | .if_icmp c off => (match st with | .inl (false, y) :: .inl (false, x) :: r => a_br k B pc len off c (false, x) (false, y) l r | _ => none)
  | .goto off => a_to k (some B) pc off l st
  | .tableswitch d lo hi offs => (match st with | .inl (false, x) :: r => if (offs.size : Int) = hi - lo + 1 then a_cats2 (a_tab k B pc (false, x) l r lo offs.toList) (a_cats2 (a_to k (a_asm B .lt (false, x) (false, none, lo)) pc d l r) (a_to k (a_asm B .gt (false, x) (false, none, hi)) pc d l r)) else none | _ => none)
  | .lookupswitch d ps => (match st with | .inl (false, x) :: r => if (ps.toList.zip (ps.toList.drop 1)).all (fun (a, next) => a.1 < next.1) = true then a_lkp k pc (false, x) l r d (some B) ps.toList else none | _ => none)
  | _ => none
end
section
abbrev a_Q : Type := Nat × a_B × List a_V × List a_C
def a_hul (B : a_B) : List a_N → Int × Int
  | [] => (0, 0)
  | [x] => a_iv B x
  | x :: xs => (a_mn (a_iv B x).1 (a_hul B xs).1, a_mx (a_iv B x).2 (a_hul B xs).2)
def a_put (B : a_B) (c : (Int × Int) ⊕ List a_N ⊕ Unit ⊕ List (Option Nat)) (i : Int × Int) (v : a_N) : Option ((Int × Int) ⊕ List a_N ⊕ Unit ⊕ List (Option Nat)) := match c with
  | .inl q => some (.inl (a_mn q.1 (a_iv B v).1, a_mx q.2 (a_iv B v).2))
  | .inr (.inl vs) => if i.1 = i.2 then some (.inr (.inl (vs.set i.1.toNat v))) else some (.inl (a_mn (a_hul B vs).1 (a_iv B v).1, a_mx (a_hul B vs).2 (a_iv B v).2))
  | _ => none
def a_rd (k : Nat) (B : a_B) (c : (Int × Int) ⊕ List a_N ⊕ Unit ⊕ List (Option Nat)) (i : Int × Int) : Option (Nat × a_B × a_N) := match c with
  | .inl q => some (if q.1 = q.2 then (k, B, (false, none, q.1)) else a_new k B false q.1 q.2)
  | .inr (.inl vs) => if i.1 = i.2 then (match vs[i.1.toNat]? with | some v => some (k, B, v) | none => none) else some (a_new k B false (a_hul B vs).1 (a_hul B vs).2)
  | _ => none
def a_fit (ty : FieldType) (v : a_V) : Bool := match ty, v with
  | .int, .inl (false, _, _) => true
  | .long, .inl (true, _, _) => true
  | .object _, .inr (.inl _) => true
  | .array _, .inr (.inl _) => true
  | _, _ => false
def a_ref (k : Nat) (B : a_B) (x : a_N) (r : List a_V) (m : List a_C) : Int → List (Option Nat) → List a_Q
  | _, [] => []
  | j, o :: os => (match a_asm B .eq x (false, none, j) with | some B1 => [(k, B1, .inr (.inl o) :: r, m)] | none => []) ++ a_ref k B x r m (j + 1) os
def a_ac (v : List a_V) : Nat := (v.map a_cat).sum
def a_in (B : a_B) (x : a_N) (n : Nat) : Bool := decide (0 ≤ (a_iv B x).1 ∧ (a_iv B x).2 < (n : Int))
def a_cpy (k : Nat) (B : a_B) (r : List a_V) (m : List a_C) (j d : Nat) (sp dp w : Int × Int) : Option (List a_Q) := match m[j]?, m[d]? with
  | some (.inl (t0, n0, .inl q)), some (.inl (t1, n1, .inl p)) => if t0 = 0 ∧ t1 = 0 ∧ 0 ≤ sp.1 ∧ 0 ≤ dp.1 ∧ 0 ≤ w.1 ∧ sp.2 + w.2 ≤ (n0 : Int) ∧ dp.2 + w.2 ≤ (n1 : Int) then some [(k, B, r, m.set d (.inl (t1, n1, .inl (a_mn q.1 p.1, a_mx q.2 p.2))))] else none
  | some (.inl (t0, n0, .inr (.inr (.inl u)))), some (.inl (t1, n1, .inr (.inr (.inl _)))) => if t0 = 1 ∧ t1 = 1 ∧ 0 ≤ sp.1 ∧ 0 ≤ dp.1 ∧ 0 ≤ w.1 ∧ sp.2 + w.2 ≤ (n0 : Int) ∧ dp.2 + w.2 ≤ (n1 : Int) then some [(k, B, r, m.set d (.inl (t1, n1, .inr (.inr (.inl u)))))] else none
  | _, _ => none
def a_mem (G : q_G) (k : Nat) (B : a_B) (fr lo : Nat) (i : Instr) (st : List a_V) (m : List a_C) : Option (List a_Q) := match i with
  | .getfield n => (match st with | .inr (.inl (some a)) :: r => (match m[a]? with | some (.inr (ci, fs)) => if ci = n / 64 then (match fs[n % 64]? with | some v => some [(k, B, v :: r, m)] | none => none) else none | _ => none) | _ => none)
  | .putfield n => (match st with | v :: .inr (.inl (some a)) :: r => (match m[a]? with | some (.inr (ci, fs)) => if ci = n / 64 ∧ n % 64 < fs.length ∧ a_fit (q_gY G ci (n % 64)) v = true then some [(k, B, r, m.set a (.inr (ci, fs.set (n % 64) v)))] else none | _ => none) | _ => none)
  | .iaload => (match st with | .inl (false, x) :: .inr (.inl (some a)) :: r => (match m[a]? with | some (.inl (t, n, c)) => if t = 0 ∧ a_in B (false, x) n = true then (match a_rd k B c (a_iv B (false, x)) with | some z => some [(z.1, z.2.1, .inl z.2.2 :: r, m)] | none => none) else none | _ => none) | _ => none)
  | .baload => (match st with | .inl (false, x) :: .inr (.inl (some a)) :: r => (match m[a]? with | some (.inl (t, n, c)) => if (t = 2 ∨ t = 3) ∧ a_in B (false, x) n = true then (match a_rd k B c (a_iv B (false, x)) with | some z => some [(z.1, z.2.1, .inl z.2.2 :: r, m)] | none => none) else none | _ => none) | _ => none)
  | .laload => (match st with | .inl (false, x) :: .inr (.inl (some a)) :: r => (match m[a]? with | some (.inl (t, n, .inr (.inr (.inl _)))) => if t = 1 ∧ a_in B (false, x) n = true then (match a_top k B true with | z => some [(z.1, z.2.1, .inl z.2.2 :: r, m)]) else none | _ => none) | _ => none)
  | .aaload => (match st with | .inl (false, x) :: .inr (.inl (some a)) :: r => (match m[a]? with | some (.inl (t, n, .inr (.inr (.inr rs)))) => if 4 ≤ t ∧ t < (q_gA G).length ∧ a_in B (false, x) n = true ∧ rs.length = n then some (a_ref k B (false, x) r m 0 rs) else none | _ => none) | _ => none)
  | .iastore => (match st with | .inl (false, v) :: .inl (false, x) :: .inr (.inl (some a)) :: r => (match m[a]? with | some (.inl (t, n, c)) => if t = 0 ∧ a_in B (false, x) n = true then (match a_put B c (a_iv B (false, x)) (false, v) with | some c1 => some [(k, B, r, m.set a (.inl (t, n, c1)))] | none => none) else none | _ => none) | _ => none)
  | .bastore => (match st with | .inl (false, _) :: .inl (false, x) :: .inr (.inl (some a)) :: r => (match m[a]? with | some (.inl (t, n, .inl q)) => if a_in B (false, x) n = true then (if t = 2 then some [(k, B, r, m.set a (.inl (t, n, .inl (a_mn q.1 (-128), a_mx q.2 127))))] else if t = 3 then some [(k, B, r, m.set a (.inl (t, n, .inl (a_mn q.1 0, a_mx q.2 1))))] else none) else none | _ => none) | _ => none)
  | .lastore => (match st with | .inl (true, _) :: .inl (false, x) :: .inr (.inl (some a)) :: r => (match m[a]? with | some (.inl (t, n, .inr (.inr (.inl _)))) => if t = 1 ∧ a_in B (false, x) n = true then some [(k, B, r, m)] else none | _ => none) | _ => none)
  | .aastore => (match st with | .inr (.inl (some v)) :: .inl (false, x) :: .inr (.inl (some a)) :: r => (match m[a]?, m[v]? with | some (.inl (t, n, .inr (.inr (.inr rs)))), some (.inr (ci, _)) => if 4 ≤ t ∧ a_in B (false, x) n = true ∧ (a_iv B (false, x)).1 = (a_iv B (false, x)).2 ∧ ((q_gC G)[ci]?.map fun z => FieldType.object z.1) = (q_gA G)[t]? ∧ ((q_gA G)[t]?).isSome = true then some [(k, B, r, m.set a (.inl (t, n, .inr (.inr (.inr (rs.set (a_iv B (false, x)).1.toNat (some v)))))))] else none | _, _ => none) | _ => none)
  | .arraylength => (match st with | .inr (.inl (some a)) :: r => (match m[a]? with | some (.inl (t, n, _)) => if t < (q_gA G).length ∧ n < 2147483648 then some [(k, B, .inl (false, none, (n : Int)) :: r, m)] else none | _ => none) | _ => none)
  | .invokedynamic n => if n = 0 then (match st with | .inr (.inl (some _)) :: r => if 1 ≤ fr ∧ a_ac r + 12 ≤ lo then some [(k, B, r, m)] else none | _ => none)
      else if n = 1 then (match st with | .inl (false, w) :: .inl (false, dp) :: .inr (.inl (some d)) :: .inl (false, sp) :: .inr (.inl (some j)) :: r => if 1 ≤ fr ∧ a_ac r + 18 ≤ lo then a_cpy k B r m j d (a_iv B (false, sp)) (a_iv B (false, dp)) (a_iv B (false, w)) else none | _ => none)
      else none
  | _ => none
def a_dft (ty : FieldType) : Option a_V := match ty with
  | .int => some (.inl (false, none, 0))
  | .long => some (.inl (true, none, 0))
  | .object _ => some (.inr (.inl none))
  | .array _ => some (.inr (.inl none))
  | _ => none
def a_dfs (Y : Nat → FieldType) : Nat → Option (List a_V)
  | 0 => some []
  | n + 1 => match a_dfs Y n, a_dft (Y n) with
    | some l, some v => some (l ++ [v])
    | _, _ => none
def a_cel (G : q_G) (B : a_B) (i : Instr) (st : List a_V) (m : List a_C) : Option (List a_V × a_C) := match i with
  | .new ci => (match (q_gC G)[ci]? with | some (_, _, N) => (match a_dfs (q_gY G ci) N with | some l => some (.inr (.inl (some m.length)) :: st, .inr (ci, l)) | none => none) | none => none)
  | .newarray a => (match st with | .inl (false, w) :: r => if (a_iv B (false, w)).1 = (a_iv B (false, w)).2 ∧ 0 ≤ (a_iv B (false, w)).1 ∧ (a_iv B (false, w)).1 ≤ 60000000 ∧ q_tag a < 4 then some (.inr (.inl (some m.length)) :: r, .inl (q_tag a, (a_iv B (false, w)).1.toNat, if a = .long then .inr (.inr (.inl ())) else if a = .int ∧ (a_iv B (false, w)).1 ≤ 4 then .inr (.inl (List.replicate (a_iv B (false, w)).1.toNat (false, none, 0))) else .inl (0, 0))) else none | _ => none)
  | .anewarray t => (match st with | .inl (false, w) :: r => if (a_iv B (false, w)).1 = (a_iv B (false, w)).2 ∧ 0 ≤ (a_iv B (false, w)).1 ∧ (a_iv B (false, w)).1 ≤ 60000000 then some (.inr (.inl (some m.length)) :: r, .inl (t, (a_iv B (false, w)).1.toNat, .inr (.inr (.inr (List.replicate (a_iv B (false, w)).1.toNat none))))) else none | _ => none)
  | _ => none
def a_lk (i : Instr) (st : List a_V) : Option (List a_V) := match i with
  | .sipush n => some (.inl (false, none, (Int32.ofInt n).toInt) :: st)
  | .jsr_w n => some (.inl (true, none, (Int64.ofInt n).toInt) :: st)
  | _ => none
def a_sz (x : a_C) : Nat := match x with
  | .inl (_, n, _) => n
  | .inr (_, fs) => fs.length
def a_sl (m : List a_C) : Nat := (m.map a_sz).sum
def a_jmp (C : List q_I) (pc : Nat) : List q_I := match C with
  | [] => []
  | I :: C => match Nat.blt I.1 pc with
    | true => a_jmp C pc
    | false => I :: C
/-- where the code goes on: at once behind, or by a jump; the place must be met -/
def a_at (M : q_MI) (tl : List q_I) (pc : Nat) : Option (List q_I) := match tl with
  | I :: tl => if I.1 = pc then some (I :: tl) else (match a_jmp (q_mC M) pc with | J :: l => if J.1 = pc then some (J :: l) else none | [] => none)
  | [] => (match a_jmp (q_mC M) pc with | J :: l => if J.1 = pc then some (J :: l) else none | [] => none)
def a_rcv (G : q_G) (M : q_MI) (as : List a_V) (m : List a_C) : Bool := match q_mK M with
  | 1 => true
  | 0 => (match as with | .inr (.inl (some a)) :: _ => (match m[a]? with | some (.inr (ci, _)) => decide ((q_gC G)[ci]?.map (fun z => z.1) = some (q_mY M).cls) | _ => false) | _ => false)
  | _ => (match as with | .inr (.inl (some _)) :: _ => true | _ => false)
def a_lvs : Nat → List a_V → a_L
  | _, [] => []
  | i, v :: vs => (i, v) :: a_lvs (if a_cat v = 2 then i + 2 else i + 1) vs
def a_call (G : q_G) (M : q_MI) (k : Nat) (st : List a_V) (m : List a_C) : Option (q_MI × List a_V × List a_V) := match (q_gM G)[k]? with
  | none => none
  | some M1 => if q_na M1 ≤ st.length ∧ a_ac (st.drop (q_na M1)) ≤ 8 ∧ q_mF M1 + 1 ≤ q_mF M ∧ 8 + (q_mL M1 + 11) + q_mO M1 ≤ q_mO M ∧ a_ac (st.take (q_na M1)) ≤ q_mL M1 ∧ a_rcv G M1 (st.take (q_na M1)).reverse m = true
    then some (M1, (st.take (q_na M1)).reverse, st.drop (q_na M1)) else none
def a_ret (B : a_B) (M : q_MI) (i : Instr) (st : List a_V) : Option (List a_V) := match i with
  | .ireturn => (match st with | [.inl (false, x)] => (match q_mR M with | some .int => some [.inl (false, x)] | some .boolean => if 0 ≤ (a_iv B (false, x)).1 ∧ (a_iv B (false, x)).2 ≤ 1 then some [.inl (false, x)] else none | _ => none) | _ => none)
  | .lreturn => (match st with | [.inl (true, x)] => if q_mR M = some .long then some [.inl (true, x)] else none | _ => none)
  | .return_ => (match st with | [] => if q_mR M = none then some [] else none | _ => none)
  | _ => none
def a_eqn (x y : a_N) : Bool := decide (x.2.1 = y.2.1 ∧ x.2.2 = y.2.2)
def a_mmo (S : List (a_N × a_N)) (x : a_N) : Option a_N := match S with
  | [] => none
  | q :: S => match a_eqn q.1 x with
    | true => some q.2
    | false => a_mmo S x
/-- the script read: a number that was read before is the same; L is the variable 0 -/
def a_scr (k : Nat) (B : a_B) (S : List (a_N × a_N)) (i : Instr) (st : List a_V) : Option (Nat × a_B × List (a_N × a_N) × List a_V) := match i with
  | .iaload => (match st with | .inl (false, x) :: .inr (.inr ()) :: r => (match a_mmo S (false, x) with
      | some v => some (k, B, S, .inl v :: r)
      | none => if 0 ≤ (a_iv B (false, x)).1 ∧ (a_iv B (false, x)).2 < (a_iv B (true, some 0, 0)).1 then (match a_top k B false with | z => some (z.1, z.2.1, ((false, x), z.2.2) :: S, .inl z.2.2 :: r)) else none) | _ => none)
  | .arraylength => (match st with | .inr (.inr ()) :: r => some (k, B, S, .inl (false, some 0, 0) :: r) | _ => none)
  | _ => none
def a_nxt (M : q_MI) (tl : List q_I) (fs : List a_F) (S : List (a_N × a_N)) (m : List a_C) : List a_P → Option (List a_K)
  | [] => some []
  | p :: ps => match a_at M tl p.2.2.1, a_nxt M tl fs S m ps with
    | some c, some l => some ((p.1, p.2.1, S, (M, c, p.2.2.2.1, p.2.2.2.2) :: fs, m) :: l)
    | _, _ => none
def a_nxm (M : q_MI) (c : List q_I) (l : a_L) (fs : List a_F) (S : List (a_N × a_N)) (ps : List a_Q) : List a_K := ps.map (fun p => (p.1, p.2.1, S, (M, c, l, p.2.2.1) :: fs, p.2.2.2))
def a_step (G : q_G) (mx ml : Nat) (K : a_K) : Option (List a_K) := match K with
  | (_, _, _, [], _) => none
  | (_, _, _, (_, [], _, _) :: _, _) => none
  | (k, B, S, (M, (pc, _, len, i, _) :: tl, l, st) :: fs, m) => match q_grp i with
    | 0 => (match a_pure k B (q_mL M) pc len i l st with | some ps => a_nxt M tl fs S m ps | none => none)
    | 1 => (match a_at M tl (pc + len) with
        | some c => (match fs with
            | [] => (match a_scr k B S i st with | some (k1, B1, S1, st1) => some [(k1, B1, S1, [(M, c, l, st1)], m)] | none => none)
            | _ :: _ => (match a_mem G k B (q_mF M) (q_mO M) i st m with | some ps => some (a_nxm M c l fs S ps) | none => none))
        | none => none)
    | 2 => (match a_at M tl (pc + len), a_cel G B i st m with | some c, some (st1, x) => some [(k, B, S, (M, c, l, st1) :: fs, m ++ [x])] | _, _ => none)
    | 3 => (match q_cnum i with
        | some j => (match a_at M tl (pc + len), a_call G M j st m with
            | some c, some (M1, as, rest) => (match a_at M1 (q_mC M1) 0 with | some c1 => some [(k, B, S, (M1, c1, a_lvs 0 as, []) :: (M, c, l, rest) :: fs, m)] | none => none)
            | _, _ => none)
        | none => (match fs with
            | [] => (match i, st with | .ireturn, [.inl (false, x)] => if (a_iv B (false, x)).1 = 1 ∧ (a_iv B (false, x)).2 = 1 ∧ m.length ≤ mx ∧ a_sl m ≤ ml then some [] else none | _, _ => none)
            | (M2, c2, l2, st2) :: fs2 => (match a_ret B M i st with | some r => some [(k, B, S, (M2, c2, l2, r ++ st2) :: fs2, m)] | none => none)))
    | _ => (match a_at M tl (pc + len), a_lk i st with | some c, some st1 => some [(k, B, S, (M, c, l, st1) :: fs, m)] | _, _ => none)
/-- every path comes to the law's end with 1 -/
noncomputable def a_run (G : q_G) (mx ml : Nat) (n : Nat) : a_K → Bool := Nat.rec (motive := fun _ => a_K → Bool) (fun _ => false) (fun _ ih K => match a_step G mx ml K with
  | none => false
  | some [] => true
  | some [K1] => ih K1
  | some Ks => Ks.all ih) n
end
section
/-! WHAT THE ABSTRACT THINGS MEAN: v gives the variables' values -/
def g_lin (v : List Int) (o : Option Nat) (c z : Int) : Prop := match o with
  | none => z = c
  | some i => ∃ w, v[i]? = some w ∧ z = w + c
def g_n (v : List Int) (x : a_N) (y : Value) : Prop := match x.1 with
  | false => ∃ z : Int32, y = .int z ∧ g_lin v x.2.1 x.2.2 z.toInt
  | true => ∃ z : Int64, y = .long z ∧ g_lin v x.2.1 x.2.2 z.toInt
def g_v (b : Nat) (v : List Int) (x : a_V) (y : Value) : Prop := match x with
  | .inl n => g_n v n y
  | .inr (.inl (some k)) => y = .ref k
  | .inr (.inl none) => y = .null
  | .inr (.inr _) => y = .retAddr b
def g_B (v : List Int) (B : a_B) : Prop := ∀ q ∈ B, ∃ w, v[q.1]? = some w ∧ q.2.1 ≤ w ∧ w ≤ q.2.2
def g_2 {α β : Type} (R : α → β → Prop) : List α → List β → Prop
  | [], [] => True
  | a :: as, b :: bs => R a b ∧ g_2 R as bs
  | _, _ => False
theorem g_2_len {α β : Type} {R : α → β → Prop} : ∀ {as : List α} {bs : List β}, g_2 R as bs → as.length = bs.length
  | [], [], _ => rfl
  | a :: as, b :: bs, h => by simp [g_2_len h.2]
  | [], _ :: _, h => h.elim
  | _ :: _, [], h => h.elim
theorem g_2_get {α β : Type} {R : α → β → Prop} : ∀ {as : List α} {bs : List β}, g_2 R as bs → ∀ {i : Nat} {a : α}, as[i]? = some a → ∃ b, bs[i]? = some b ∧ R a b
  | [], [], _, i, a, h => by simp at h
  | x :: as, y :: bs, hh, 0, a, h => by
    simp at h
    subst h
    exact ⟨y, by simp, hh.1⟩
  | x :: as, y :: bs, hh, i + 1, a, h => by
    simp at h
    obtain ⟨b, h1, h2⟩ := g_2_get hh.2 h
    exact ⟨b, by simpa using h1, h2⟩
  | [], _ :: _, hh, _, _, _ => hh.elim
  | _ :: _, [], hh, _, _, _ => hh.elim
theorem g_2_mono {α β : Type} {R S : α → β → Prop} (hRS : ∀ a b, R a b → S a b) : ∀ {as : List α} {bs : List β}, g_2 R as bs → g_2 S as bs
  | [], [], _ => trivial
  | a :: as, b :: bs, h => ⟨hRS _ _ h.1, g_2_mono hRS h.2⟩
  | [], _ :: _, h => h.elim
  | _ :: _, [], h => h.elim
theorem g_2_set {α β : Type} {R : α → β → Prop} : ∀ {as : List α} {bs : List β}, g_2 R as bs → ∀ {i : Nat} {a : α} {b : β}, R a b → g_2 R (as.set i a) (bs.set i b)
  | [], [], _, i, a, b, _ => trivial
  | x :: as, y :: bs, hh, 0, a, b, h => ⟨h, hh.2⟩
  | x :: as, y :: bs, hh, i + 1, a, b, h => ⟨hh.1, g_2_set hh.2 h⟩
  | [], _ :: _, hh, _, _, _, _ => hh.elim
  | _ :: _, [], hh, _, _, _, _ => hh.elim
theorem g_2_app {α β : Type} {R : α → β → Prop} : ∀ {as : List α} {bs : List β} {cs : List α} {ds : List β}, g_2 R as bs → g_2 R cs ds → g_2 R (as ++ cs) (bs ++ ds)
  | [], [], cs, ds, _, h => h
  | x :: as, y :: bs, cs, ds, hh, h => ⟨hh.1, g_2_app hh.2 h⟩
  | [], _ :: _, _, _, hh, _ => hh.elim
  | _ :: _, [], _, _, hh, _ => hh.elim
theorem g_2_take {α β : Type} {R : α → β → Prop} : ∀ (n : Nat) {as : List α} {bs : List β}, g_2 R as bs → g_2 R (as.take n) (bs.take n)
  | 0, _, _, _ => by simp [g_2]
  | n + 1, [], [], _ => by simp [g_2]
  | n + 1, x :: as, y :: bs, hh => ⟨hh.1, g_2_take n hh.2⟩
  | _ + 1, [], _ :: _, hh => hh.elim
  | _ + 1, _ :: _, [], hh => hh.elim
theorem g_2_drop {α β : Type} {R : α → β → Prop} : ∀ (n : Nat) {as : List α} {bs : List β}, g_2 R as bs → g_2 R (as.drop n) (bs.drop n)
  | 0, _, _, h => h
  | n + 1, [], [], _ => by simp [g_2]
  | n + 1, x :: as, y :: bs, hh => g_2_drop n hh.2
  | _ + 1, [], _ :: _, hh => hh.elim
  | _ + 1, _ :: _, [], hh => hh.elim
theorem g_2_rev {α β : Type} {R : α → β → Prop} : ∀ {as : List α} {bs : List β}, g_2 R as bs → g_2 R as.reverse bs.reverse
  | [], [], _ => trivial
  | x :: as, y :: bs, hh => by
    rw [List.reverse_cons, List.reverse_cons]
    exact g_2_app (g_2_rev hh.2) ⟨hh.1, trivial⟩
  | [], _ :: _, hh => hh.elim
  | _ :: _, [], hh => hh.elim
theorem g_lin_ext {v t : List Int} {o : Option Nat} {c z : Int} (h : g_lin v o c z) : g_lin (v ++ t) o c z := by
  cases o with
  | none => exact h
  | some i =>
    obtain ⟨w, h1, h2⟩ := h
    exact ⟨w, by rw [List.getElem?_append_left (List.getElem?_eq_some_iff.mp h1).1]; exact h1, h2⟩
theorem g_n_ext {v t : List Int} {x : a_N} {y : Value} (h : g_n v x y) : g_n (v ++ t) x y := by
  obtain ⟨lg, o, c⟩ := x
  cases lg with
  | false =>
    obtain ⟨z, h1, h2⟩ := h
    exact ⟨z, h1, g_lin_ext h2⟩
  | true =>
    obtain ⟨z, h1, h2⟩ := h
    exact ⟨z, h1, g_lin_ext h2⟩
theorem g_v_ext {b : Nat} {v t : List Int} {x : a_V} {y : Value} (h : g_v b v x y) : g_v b (v ++ t) x y := by
  match x, h with
  | .inl n, h => exact g_n_ext h
  | .inr (.inl (some k)), h => exact h
  | .inr (.inl none), h => exact h
  | .inr (.inr _), h => exact h
theorem g_B_ext {v t : List Int} {B : a_B} (h : g_B v B) : g_B (v ++ t) B := by
  intro q hq
  obtain ⟨w, h1, h2⟩ := h q hq
  exact ⟨w, by rw [List.getElem?_append_left (List.getElem?_eq_some_iff.mp h1).1]; exact h1, h2⟩
theorem g_bd {v : List Int} : ∀ {B : a_B}, g_B v B → ∀ {i : Nat} {q : Int × Int}, a_bd B i = some q → ∃ w, v[i]? = some w ∧ q.1 ≤ w ∧ w ≤ q.2
  | [], _, i, q, h => by simp [a_bd] at h
  | p :: B, hB, i, q, h => by
    unfold a_bd at h
    split at h
    · rename_i hb
      have hb := Nat.eq_of_beq_eq_true hb
      cases h
      subst hb
      exact hB p List.mem_cons_self
    · exact g_bd (fun z hz => hB z (List.mem_cons_of_mem _ hz)) h
theorem a_mx_le {a b c : Int} (h1 : a ≤ c) (h2 : b ≤ c) : a_mx a b ≤ c := by unfold a_mx; split <;> assumption
theorem a_mn_ge {a b c : Int} (h1 : c ≤ a) (h2 : c ≤ b) : c ≤ a_mn a b := by unfold a_mn; split <;> assumption
theorem a_mx_l (a b : Int) : a ≤ a_mx a b := by unfold a_mx; split <;> omega
theorem a_mx_r (a b : Int) : b ≤ a_mx a b := by unfold a_mx; split <;> omega
theorem a_mn_l (a b : Int) : a_mn a b ≤ a := by unfold a_mn; split <;> omega
theorem a_mn_r (a b : Int) : a_mn a b ≤ b := by unfold a_mn; split <;> omega
def g_in (lg : Bool) (z : Int) : Prop := (a_rng lg).1 ≤ z ∧ z ≤ (a_rng lg).2
theorem g_in32 (x : Int32) : g_in false x.toInt := by
  have h1 := Int32.le_toInt x
  have h2 := Int32.toInt_lt x
  exact ⟨by show (-2147483648 : Int) ≤ _; omega, by show _ ≤ (2147483647 : Int); omega⟩
theorem g_in64 (x : Int64) : g_in true x.toInt := by
  have h1 := Int64.le_toInt x
  have h2 := Int64.toInt_lt x
  exact ⟨by show (-9223372036854775808 : Int) ≤ _; omega, by show _ ≤ (9223372036854775807 : Int); omega⟩
theorem g_o32 {o : Option Nat} (x : Int32) : o = none ∨ g_in false x.toInt := Or.inr (g_in32 x)
theorem g_o64 {o : Option Nat} (x : Int64) : o = none ∨ g_in true x.toInt := Or.inr (g_in64 x)
theorem g_iv {v : List Int} {B : a_B} (hB : g_B v B) {x : a_N} {z : Int} (hx : g_lin v x.2.1 x.2.2 z) (hz : x.2.1 = none ∨ g_in x.1 z) : (a_iv B x).1 ≤ z ∧ z ≤ (a_iv B x).2 := by
  obtain ⟨lg, o, c⟩ := x
  cases o with
  | none =>
    have : z = c := hx
    subst this
    exact ⟨Int.le_refl _, Int.le_refl _⟩
  | some i =>
    obtain ⟨w, h1, h2⟩ := hx
    have hz : g_in lg z := hz.elim (fun q => by cases q) id
    simp only at h1 h2
    simp only [a_iv]
    cases hb : a_bd B i with
    | none => exact hz
    | some q =>
      obtain ⟨w2, h3, h4, h5⟩ := g_bd hB hb
      rw [h1] at h3
      cases h3
      exact ⟨a_mx_le (by omega) hz.1, a_mn_ge (by omega) hz.2⟩
theorem g_rf {v : List Int} {B : a_B} (hB : g_B v B) {x : a_N} {z lo hi : Int} (hx : g_lin v x.2.1 x.2.2 z) (h1 : lo ≤ z) (h2 : z ≤ hi) : g_B v (a_rf B x lo hi) := by
  obtain ⟨lg, o, c⟩ := x
  cases o with
  | none => exact hB
  | some i =>
    obtain ⟨w, e1, e2⟩ := hx
    simp only at e1 e2
    simp only [a_rf]
    cases hb : a_bd B i with
    | none =>
      intro q hq
      rcases List.mem_cons.mp hq with rfl | hq
      · exact ⟨w, e1, by show lo - c ≤ w; omega, by show w ≤ hi - c; omega⟩
      · exact hB q hq
    | some q0 =>
      obtain ⟨w2, h3, h4, h5⟩ := g_bd hB hb
      rw [e1] at h3
      cases h3
      intro q hq
      rcases List.mem_cons.mp hq with rfl | hq
      · exact ⟨w, e1, a_mx_le h4 (by omega), a_mn_ge h5 (by omega)⟩
      · exact hB q hq
/-- a comparison, of integers -/
def g_c (c : Jvm.ClassFile.Cond) (x y : Int) : Prop := match c with
  | .eq => x = y
  | .ne => ¬ x = y
  | .lt => x < y
  | .ge => y ≤ x
  | .gt => y < x
  | .le => x ≤ y
theorem g_c_swp {c : Jvm.ClassFile.Cond} {x y : Int} (h : g_c c x y) : g_c (a_swp c) y x := by
  cases c <;> simp only [g_c, a_swp] at * <;> omega
theorem g_c_opp {c : Jvm.ClassFile.Cond} {x y : Int} (h : ¬ g_c c x y) : g_c (a_opp c) x y := by
  cases c <;> simp only [g_c, a_opp] at * <;> omega
theorem g_lim {c : Jvm.ClassFile.Cond} {a b : Int × Int} {x y : Int} (ha : a.1 ≤ x ∧ x ≤ a.2) (hb : b.1 ≤ y ∧ y ≤ b.2) (h : g_c c x y) : (a_lim c a b).1 ≤ x ∧ x ≤ (a_lim c a b).2 := by
  cases c <;> simp only [g_c, a_lim] at *
  · omega
  · split
    · simp only; omega
    · split
      · simp only; omega
      · exact ha
  · omega
  · omega
  · omega
  · omega
theorem g_asm {v : List Int} {B : a_B} (hB : g_B v B) {c : Jvm.ClassFile.Cond} {x y : a_N} {z w : Int} (hx : g_lin v x.2.1 x.2.2 z) (hy : g_lin v y.2.1 y.2.2 w) (hz : x.2.1 = none ∨ g_in x.1 z) (hw : y.2.1 = none ∨ g_in y.1 w) (h : g_c c z w) : ∃ B1, a_asm B c x y = some B1 ∧ g_B v B1 := by
  have ha := g_iv hB hx hz
  have hb := g_iv hB hy hw
  have hp := g_lim ha hb h
  have hq := g_lim hb ha (g_c_swp h)
  unfold a_asm
  rw [if_pos ⟨Int.le_trans (a_mx_le ha.1 hp.1) (a_mn_ge ha.2 hp.2), Int.le_trans (a_mx_le hb.1 hq.1) (a_mn_ge hb.2 hq.2)⟩]
  exact ⟨_, rfl, g_rf (g_rf hB hx hp.1 hp.2) hy hq.1 hq.2⟩
theorem g_c32 (c : Jvm.ClassFile.Cond) (x y : Int32) : q_c c x y = true ↔ g_c c x.toInt y.toInt := by
  cases c <;> simp only [q_c, g_c, decide_eq_true_eq, Int32.lt_iff_toInt_lt, Int32.le_iff_toInt_le, Int32.toInt_inj]
/-- a number that a step makes -/
def g_R (v : List Int) (r : Nat × a_B × a_N) (lg : Bool) (z : Int) : Prop := ∃ t : List Int, (v ++ t).length = r.1 ∧ g_B (v ++ t) r.2.1 ∧ r.2.2.1 = lg ∧ g_lin (v ++ t) r.2.2.2.1 r.2.2.2.2 z
theorem g_R0 {v : List Int} {k : Nat} {B : a_B} (hk : v.length = k) (hB : g_B v B) {x : a_N} {lg : Bool} {z : Int} (h1 : x.1 = lg) (h2 : g_lin v x.2.1 x.2.2 z) : g_R v (k, B, x) lg z := ⟨[], by simpa using hk, by simpa using hB, h1, by simpa using h2⟩
theorem g_new {v : List Int} {k : Nat} {B : a_B} (hk : v.length = k) (hB : g_B v B) {lg : Bool} {lo hi z : Int} (h1 : lo ≤ z) (h2 : z ≤ hi) : g_R v (a_new k B lg lo hi) lg z := by
  have hv : (v ++ [z])[k]? = some z := by
    subst hk
    simp
  refine ⟨[z], by simp [a_new, hk], ?_, rfl, z, hv, by simp [a_new]⟩
  intro q hq
  rcases List.mem_cons.mp hq with rfl | hq
  · exact ⟨z, hv, h1, h2⟩
  · exact g_B_ext hB q hq
theorem g_top {v : List Int} {k : Nat} {B : a_B} (hk : v.length = k) (hB : g_B v B) {lg : Bool} {z : Int} (h : g_in lg z) : g_R v (a_top k B lg) lg z := g_new hk hB h.1 h.2
theorem g_bin32 {v : List Int} {k : Nat} {B : a_B} (hk : v.length = k) (hB : g_B v B) {op : Int32 → Int32 → Int32} {iv : Int × Int → Int × Int → Int × Int} {x y : a_N} {z w : Int32} (hx1 : x.1 = false) (hy1 : y.1 = false) (hx : g_lin v x.2.1 x.2.2 z.toInt) (hy : g_lin v y.2.1 y.2.2 w.toInt)
    (hiv : ∀ a b : Int × Int, a.1 ≤ z.toInt ∧ z.toInt ≤ a.2 → b.1 ≤ w.toInt ∧ w.toInt ≤ b.2 → (iv a b).1 ≤ (op z w).toInt ∧ (op z w).toInt ≤ (iv a b).2) : g_R v (a_bin32 k B op iv x y) false (op z w).toInt := by
  have ha := g_iv hB hx (by rw [hx1]; exact g_o32 z)
  have hb := g_iv hB hy (by rw [hy1]; exact g_o32 w)
  unfold a_bin32
  simp only
  split
  · rename_i h
    refine g_R0 hk hB rfl ?_
    have e1 : Int32.ofInt (a_iv B x).1 = z := by
      rw [show (a_iv B x).1 = z.toInt by omega]
      exact Int32.ofInt_toInt z
    have e2 : Int32.ofInt (a_iv B y).1 = w := by
      rw [show (a_iv B y).1 = w.toInt by omega]
      exact Int32.ofInt_toInt w
    rw [e1, e2]
    rfl
  · exact g_new hk hB (hiv _ _ ha hb).1 (hiv _ _ ha hb).2
theorem g_bin64 {v : List Int} {k : Nat} {B : a_B} (hk : v.length = k) (hB : g_B v B) {op : Int64 → Int64 → Int64} {iv : Int × Int → Int × Int → Int × Int} {x y : a_N} {z w : Int64} (hx1 : x.1 = true) (hy1 : y.1 = true) (hx : g_lin v x.2.1 x.2.2 z.toInt) (hy : g_lin v y.2.1 y.2.2 w.toInt)
    (hiv : ∀ a b : Int × Int, a.1 ≤ z.toInt ∧ z.toInt ≤ a.2 → b.1 ≤ w.toInt ∧ w.toInt ≤ b.2 → (iv a b).1 ≤ (op z w).toInt ∧ (op z w).toInt ≤ (iv a b).2) : g_R v (a_bin64 k B op iv x y) true (op z w).toInt := by
  have ha := g_iv hB hx (by rw [hx1]; exact g_o64 z)
  have hb := g_iv hB hy (by rw [hy1]; exact g_o64 w)
  unfold a_bin64
  simp only
  split
  · rename_i h
    refine g_R0 hk hB rfl ?_
    have e1 : Int64.ofInt (a_iv B x).1 = z := by
      rw [show (a_iv B x).1 = z.toInt by omega]
      exact Int64.ofInt_toInt z
    have e2 : Int64.ofInt (a_iv B y).1 = w := by
      rw [show (a_iv B y).1 = w.toInt by omega]
      exact Int64.ofInt_toInt w
    rw [e1, e2]
    rfl
  · exact g_new hk hB (hiv _ _ ha hb).1 (hiv _ _ ha hb).2
theorem g_all32 (x : Int32) (a b : Int × Int) : (a_all32 a b).1 ≤ x.toInt ∧ x.toInt ≤ (a_all32 a b).2 := g_in32 x
theorem g_all64 (x : Int64) (a b : Int × Int) : (a_all64 a b).1 ≤ x.toInt ∧ x.toInt ≤ (a_all64 a b).2 := g_in64 x
/-- within bounds an operation of 32 bits is the integers' own -/
theorem g_add32 {x y : Int32} (h : g_in false (x.toInt + y.toInt)) : (x + y).toInt = x.toInt + y.toInt := by
  rw [Int32.toInt_add]
  have h1 : (-2147483648 : Int) ≤ x.toInt + y.toInt := h.1
  have h2 : x.toInt + y.toInt ≤ (2147483647 : Int) := h.2
  exact Int.bmod_eq_of_le (by omega) (by omega)
theorem g_sub32 {x y : Int32} (h : g_in false (x.toInt - y.toInt)) : (x - y).toInt = x.toInt - y.toInt := by
  rw [Int32.toInt_sub]
  have h1 : (-2147483648 : Int) ≤ x.toInt - y.toInt := h.1
  have h2 : x.toInt - y.toInt ≤ (2147483647 : Int) := h.2
  exact Int.bmod_eq_of_le (by omega) (by omega)
theorem g_mul32 {x y : Int32} (h : g_in false (x.toInt * y.toInt)) : (x * y).toInt = x.toInt * y.toInt := by
  rw [Int32.toInt_mul]
  have h1 : (-2147483648 : Int) ≤ x.toInt * y.toInt := h.1
  have h2 : x.toInt * y.toInt ≤ (2147483647 : Int) := h.2
  exact Int.bmod_eq_of_le (by omega) (by omega)
theorem g_add64 {x y : Int64} (h : g_in true (x.toInt + y.toInt)) : (x + y).toInt = x.toInt + y.toInt := by
  rw [Int64.toInt_add]
  have h1 : (-9223372036854775808 : Int) ≤ x.toInt + y.toInt := h.1
  have h2 : x.toInt + y.toInt ≤ (9223372036854775807 : Int) := h.2
  exact Int.bmod_eq_of_le (by omega) (by omega)
theorem g_sub64 {x y : Int64} (h : g_in true (x.toInt - y.toInt)) : (x - y).toInt = x.toInt - y.toInt := by
  rw [Int64.toInt_sub]
  have h1 : (-9223372036854775808 : Int) ≤ x.toInt - y.toInt := h.1
  have h2 : x.toInt - y.toInt ≤ (9223372036854775807 : Int) := h.2
  exact Int.bmod_eq_of_le (by omega) (by omega)
end
section
theorem g_ca {α β : Type} {R : α → β → Prop} {a : α} {as : List α} {st : List β} (h : g_2 R (a :: as) st) : ∃ y ys, st = y :: ys ∧ R a y ∧ g_2 R as ys := by
  match st, h with
  | y :: ys, h => exact ⟨y, ys, rfl, h.1, h.2⟩
theorem g_na {α β : Type} {R : α → β → Prop} {st : List β} (h : g_2 R ([] : List α) st) : st = [] := by
  match st, h with
  | [], _ => rfl
abbrev g_s (b : Nat) (v : List Int) (sa : List a_V) (st : List Value) : Prop := g_2 (g_v b v) sa st
abbrev g_L (b : Nat) (v : List Int) (la : a_L) (l : q_L) : Prop := g_2 (fun (p : Nat × a_V) (q : Nat × Value) => p.1 = q.1 ∧ g_v b v p.2 q.2) la l
theorem g_s_ext {b : Nat} {v t : List Int} {sa : List a_V} {st : List Value} (h : g_s b v sa st) : g_s b (v ++ t) sa st := g_2_mono (fun _ _ => g_v_ext) h
theorem g_L_ext {b : Nat} {v t : List Int} {la : a_L} {l : q_L} (h : g_L b v la l) : g_L b (v ++ t) la l := g_2_mono (fun _ _ h => ⟨h.1, g_v_ext h.2⟩) h
theorem g_cat {b : Nat} {v : List Int} {x : a_V} {y : Value} (h : g_v b v x y) : a_cat x = y.category := by
  match x, h with
  | .inl (false, o, c), h =>
    obtain ⟨z, rfl, -⟩ := h
    rfl
  | .inl (true, o, c), h =>
    obtain ⟨z, rfl, -⟩ := h
    rfl
  | .inr (.inl (some k)), h =>
    have h : y = .ref k := h
    subst h
    rfl
  | .inr (.inl none), h =>
    have h : y = .null := h
    subst h
    rfl
  | .inr (.inr _), h =>
    have h : y = .retAddr b := h
    subst h
    rfl
theorem g_get {b : Nat} {v : List Int} : ∀ {la : a_L} {l : q_L}, g_L b v la l → ∀ {k : Nat} {x : a_V}, a_get la k = some x → ∃ y, q_get l k = some y ∧ g_v b v x y
  | [], [], _, k, x, h => by simp [a_get] at h
  | p :: la, q :: l, hh, k, x, h => by
    unfold a_get at h
    split at h
    · rename_i hb
      have hb := Nat.eq_of_beq_eq_true hb
      cases h
      refine ⟨q.2, ?_, hh.1.2⟩
      unfold q_get
      rw [if_pos (by rw [← hh.1.1]; exact hb)]
    · rename_i hb
      obtain ⟨y, h1, h2⟩ := g_get hh.2 h
      refine ⟨y, ?_, h2⟩
      unfold q_get
      rw [if_neg]
      · exact h1
      · intro hq
        rw [← hh.1.1] at hq
        rw [hq, Nat.beq_refl] at hb
        cases hb
  | [], _ :: _, hh, _, _, _ => hh.elim
  | _ :: _, [], hh, _, _, _ => hh.elim
theorem g_flt {b : Nat} {v : List Int} (F : Nat → Nat → Bool) : ∀ {la : a_L} {l : q_L}, g_L b v la l → g_L b v (la.filter (fun q => F q.1 (a_cat q.2))) (l.filter (fun q => F q.1 q.2.category))
  | [], [], _ => trivial
  | p :: la, q :: l, hh => by
    have ih := g_flt F hh.2
    have e1 : F p.1 (a_cat p.2) = F q.1 q.2.category := by rw [hh.1.1, g_cat hh.1.2]
    simp only [List.filter_cons, e1]
    split
    · exact ⟨hh.1, ih⟩
    · exact ih
  | [], _ :: _, hh => hh.elim
  | _ :: _, [], hh => hh.elim
theorem g_s1 {b : Nat} {v : List Int} {la : a_L} {l : q_L} (h : g_L b v la l) {i : Nat} {x : a_V} {y : Value} (hx : g_v b v x y) : g_L b v (a_s1 la i x) (q_s1 l i y) := ⟨⟨rfl, hx⟩, g_flt (fun a c => !(a == i) && !(a + 1 == i && c == 2)) h⟩
theorem g_s2 {b : Nat} {v : List Int} {la : a_L} {l : q_L} (h : g_L b v la l) {i : Nat} {x : a_V} {y : Value} (hx : g_v b v x y) : g_L b v (a_s2 la i x) (q_s2 l i y) := ⟨⟨rfl, hx⟩, g_flt (fun a c => !(a == i) && (!(a == i + 1) && !(a + 1 == i && c == 2))) h⟩
def g_PR (b : Nat) (v : List Int) (ps : List a_P) (res : Option (Nat × q_L × List Value)) : Prop := ∃ p ∈ ps, ∃ (t : List Int) (l1 : q_L) (st1 : List Value), res = some (p.2.2.1, l1, st1) ∧ (v ++ t).length = p.1 ∧ g_B (v ++ t) p.2.1 ∧ g_L b (v ++ t) p.2.2.2.1 l1 ∧ g_s b (v ++ t) p.2.2.2.2 st1
theorem g_P0 {b : Nat} {v : List Int} {k : Nat} {B : a_B} {pc : Nat} {la : a_L} {sa : List a_V} {ps : List a_P} {l : q_L} {st : List Value} {res : Option (Nat × q_L × List Value)} (hm : (k, B, pc, la, sa) ∈ ps) (hr : res = some (pc, l, st)) (hk : v.length = k) (hB : g_B v B) (hl : g_L b v la l) (hs : g_s b v sa st) : g_PR b v ps res :=
  ⟨_, hm, [], l, st, hr, by simpa using hk, by simpa using hB, by simpa using hl, by simpa using hs⟩
theorem g_P1 {b : Nat} {v : List Int} {z : Nat × a_B × a_N} {lg : Bool} {w : Int} (hR : g_R v z lg w) {y : Value} (hy : match lg with | false => ∃ c : Int32, y = .int c ∧ c.toInt = w | true => ∃ c : Int64, y = .long c ∧ c.toInt = w) {pc : Nat} {la : a_L} {sa : List a_V} {l : q_L} {st : List Value} {res : Option (Nat × q_L × List Value)} (hr : res = some (pc, l, y :: st)) (hl : g_L b v la l) (hs : g_s b v sa st) : g_PR b v [(z.1, z.2.1, pc, la, .inl z.2.2 :: sa)] res := by
  obtain ⟨t, h1, h2, h3, h4⟩ := hR
  refine ⟨_, List.mem_singleton.mpr rfl, t, l, _, hr, h1, h2, g_L_ext hl, ?_, g_s_ext hs⟩
  obtain ⟨k1, B1, lg1, o, c⟩ := z
  simp only at h3 h4
  subst h3
  cases lg1 with
  | false =>
    obtain ⟨c1, rfl, rfl⟩ := hy
    exact ⟨c1, rfl, h4⟩
  | true =>
    obtain ⟨c1, rfl, rfl⟩ := hy
    exact ⟨c1, rfl, h4⟩
theorem g_sum32 {x y : Int32} {a b : Int × Int} (hx : a.1 ≤ x.toInt ∧ x.toInt ≤ a.2) (hy : b.1 ≤ y.toInt ∧ y.toInt ≤ b.2) : (a_sum false a b).1 ≤ (x + y).toInt ∧ (x + y).toInt ≤ (a_sum false a b).2 := by
  unfold a_sum
  split
  · rename_i h
    rw [g_add32 ⟨Int.le_trans h.1 (by omega), Int.le_trans (by omega) h.2⟩]
    simp only
    omega
  · exact g_in32 _
theorem g_dif32 {x y : Int32} {a b : Int × Int} (hx : a.1 ≤ x.toInt ∧ x.toInt ≤ a.2) (hy : b.1 ≤ y.toInt ∧ y.toInt ≤ b.2) : (a_dif false a b).1 ≤ (x - y).toInt ∧ (x - y).toInt ≤ (a_dif false a b).2 := by
  unfold a_dif
  split
  · rename_i h
    rw [g_sub32 ⟨Int.le_trans h.1 (by omega), Int.le_trans (by omega) h.2⟩]
    simp only
    omega
  · exact g_in32 _
theorem g_sum64 {x y : Int64} {a b : Int × Int} (hx : a.1 ≤ x.toInt ∧ x.toInt ≤ a.2) (hy : b.1 ≤ y.toInt ∧ y.toInt ≤ b.2) : (a_sum true a b).1 ≤ (x + y).toInt ∧ (x + y).toInt ≤ (a_sum true a b).2 := by
  unfold a_sum
  split
  · rename_i h
    rw [g_add64 ⟨Int.le_trans h.1 (by omega), Int.le_trans (by omega) h.2⟩]
    simp only
    omega
  · exact g_in64 _
theorem g_dif64 {x y : Int64} {a b : Int × Int} (hx : a.1 ≤ x.toInt ∧ x.toInt ≤ a.2) (hy : b.1 ≤ y.toInt ∧ y.toInt ≤ b.2) : (a_dif true a b).1 ≤ (x - y).toInt ∧ (x - y).toInt ≤ (a_dif true a b).2 := by
  unfold a_dif
  split
  · rename_i h
    rw [g_sub64 ⟨Int.le_trans h.1 (by omega), Int.le_trans (by omega) h.2⟩]
    simp only
    omega
  · exact g_in64 _
theorem g_mulb {x y : Int32} {a b : Int × Int} (hx : a.1 ≤ x.toInt ∧ x.toInt ≤ a.2) (hy : b.1 ≤ y.toInt ∧ y.toInt ≤ b.2) : (a_mul a b).1 ≤ (x * y).toInt ∧ (x * y).toInt ≤ (a_mul a b).2 := by
  unfold a_mul
  split
  · rename_i h
    have h1 : 0 ≤ x.toInt * y.toInt := Int.mul_nonneg (by omega) (by omega)
    have h2 : x.toInt * y.toInt ≤ a.2 * b.2 := Int.mul_le_mul hx.2 hy.2 (by omega) (by omega)
    have h3 : a.1 * b.1 ≤ x.toInt * y.toInt := Int.mul_le_mul hx.1 hy.1 (by omega) (by omega)
    rw [g_mul32 ⟨by show (-2147483648 : Int) ≤ _; omega, by show _ ≤ (2147483647 : Int); omega⟩]
    exact ⟨h3, h2⟩
  · exact g_in32 _
theorem g_and_r {x y : Int32} (h : 0 ≤ y.toInt) : 0 ≤ (x &&& y).toInt ∧ (x &&& y).toInt ≤ y.toInt := by
  have e : y.toInt = (y.toBitVec.toNat : Int) ∧ y.toBitVec.toNat < 2 ^ 31 := by
    have h1 : y.toInt = y.toBitVec.toInt := rfl
    rw [h1, BitVec.toInt_eq_toNat_cond] at h ⊢
    have := y.toBitVec.isLt
    split at h <;> rename_i hc
    · rw [if_pos hc]
      exact ⟨rfl, by omega⟩
    · omega
  have h2 : (x &&& y).toBitVec.toNat = x.toBitVec.toNat &&& y.toBitVec.toNat := by simp
  have h3 : (x &&& y).toBitVec.toNat ≤ y.toBitVec.toNat := by rw [h2]; exact Nat.and_le_right
  have h4 : (x &&& y).toInt = ((x &&& y).toBitVec.toNat : Int) := by
    show (x &&& y).toBitVec.toInt = _
    rw [BitVec.toInt_eq_toNat_cond, if_pos (by omega)]
  rw [h4, e.1]
  omega
theorem g_and_l {x y : Int32} (h : 0 ≤ x.toInt) : 0 ≤ (x &&& y).toInt ∧ (x &&& y).toInt ≤ x.toInt := by
  rw [Int32.and_comm]
  exact g_and_r h
theorem g_mskb {x y : Int32} {a b : Int × Int} (hx : a.1 ≤ x.toInt ∧ x.toInt ≤ a.2) (hy : b.1 ≤ y.toInt ∧ y.toInt ≤ b.2) : (a_msk a b).1 ≤ (x &&& y).toInt ∧ (x &&& y).toInt ≤ (a_msk a b).2 := by
  unfold a_msk
  split
  · have := g_and_r (x := x) (y := y) (by omega)
    simp only
    omega
  · split
    · have := g_and_l (x := x) (y := y) (by omega)
      simp only
      omega
    · exact g_in32 _
theorem g_shf {v : List Int} {B : a_B} (hB : g_B v B) {x z : a_N} {w d : Int} (hx : g_lin v x.2.1 x.2.2 w) (hw : x.2.1 = none ∨ g_in x.1 w) {lg : Bool} (h : a_shf B lg x d = some z) : z.1 = lg ∧ g_lin v z.2.1 z.2.2 (w + d) ∧ g_in lg (w + d) := by
  unfold a_shf at h
  split at h
  · rename_i hc
    cases h
    have hi := g_iv hB hx hw
    refine ⟨rfl, ?_, Int.le_trans hc.1 (by omega), Int.le_trans (by omega) hc.2⟩
    obtain ⟨lx, o, c⟩ := x
    cases o with
    | none =>
      have : w = c := hx
      show w + d = c + d
      omega
    | some i =>
      obtain ⟨u, h1, h2⟩ := hx
      simp only at h1 h2
      exact ⟨u, h1, by show w + d = u + (c + d); omega⟩
  · cases h
theorem g_add {v : List Int} {k : Nat} {B : a_B} (hk : v.length = k) (hB : g_B v B) {x y : a_N} {z w : Int32} (hx1 : x.1 = false) (hy1 : y.1 = false) (hx : g_lin v x.2.1 x.2.2 z.toInt) (hy : g_lin v y.2.1 y.2.2 w.toInt) : g_R v (a_add k B x y) false (z + w).toInt := by
  unfold a_add
  split
  · rename_i zz h1 h2
    rw [h1] at hy
    have hy : w.toInt = y.2.2 := hy
    rw [← hy] at h2
    obtain ⟨e1, e2, e3⟩ := g_shf hB hx (by rw [hx1]; exact g_o32 z) h2
    rw [g_add32 e3]
    exact g_R0 hk hB e1 e2
  · exact g_bin32 hk hB hx1 hy1 hx hy (fun a b => g_sum32)
theorem g_sub {v : List Int} {k : Nat} {B : a_B} (hk : v.length = k) (hB : g_B v B) {x y : a_N} {z w : Int32} (hx1 : x.1 = false) (hy1 : y.1 = false) (hx : g_lin v x.2.1 x.2.2 z.toInt) (hy : g_lin v y.2.1 y.2.2 w.toInt) : g_R v (a_sub k B x y) false (z - w).toInt := by
  unfold a_sub
  split
  · rename_i zz h1 h2
    rw [h1] at hy
    have hy : w.toInt = y.2.2 := hy
    rw [← hy] at h2
    obtain ⟨e1, e2, e3⟩ := g_shf hB hx (by rw [hx1]; exact g_o32 z) h2
    rw [← Int.sub_eq_add_neg] at e2 e3
    rw [g_sub32 e3]
    exact g_R0 hk hB e1 e2
  · exact g_bin32 hk hB hx1 hy1 hx hy (fun a b => g_dif32)
theorem g_nz {v : List Int} {B : a_B} (hB : g_B v B) {y : a_N} {w : Int32} (hy1 : y.1 = false) (hy : g_lin v y.2.1 y.2.2 w.toInt) (h : 0 < (a_iv B y).1 ∨ (a_iv B y).2 < 0) : ¬ w = 0 := by
  intro h0
  subst h0
  have := g_iv hB hy (by rw [hy1]; exact g_o32 0)
  rw [Int32.toInt_zero] at this
  omega
theorem g_to {b : Nat} {v : List Int} {k : Nat} {o : Option a_B} {B : a_B} {pc : Nat} {off : Int} {la : a_L} {sa : List a_V} {ps : List a_P} {l : q_L} {st : List Value} (ho : o = some B) (h : a_to k o pc off la sa = some ps) (hk : v.length = k) (hB : g_B v B) (hl : g_L b v la l) (hs : g_s b v sa st) : g_PR b v ps (q_to pc off l st) := by
  subst ho
  unfold a_to at h
  simp only at h
  unfold q_to
  split at h
  · rename_i hc
    cases h
    exact g_P0 (List.mem_singleton.mpr rfl) (by rw [if_pos hc]) hk hB hl hs
  · cases h
theorem g_cat2 {x y : Option (List a_P)} {ps : List a_P} (h : a_cats2 x y = some ps) : ∃ a b, x = some a ∧ y = some b ∧ ps = a ++ b := by
  unfold a_cats2 at h
  split at h
  · cases h
    exact ⟨_, _, rfl, rfl, rfl⟩
  · cases h
theorem g_PRl {b : Nat} {v : List Int} {ps qs : List a_P} {res : Option (Nat × q_L × List Value)} (h : g_PR b v ps res) : g_PR b v (ps ++ qs) res := by
  obtain ⟨p, hp, h⟩ := h
  exact ⟨p, List.mem_append_left _ hp, h⟩
theorem g_PRr {b : Nat} {v : List Int} {ps qs : List a_P} {res : Option (Nat × q_L × List Value)} (h : g_PR b v qs res) : g_PR b v (ps ++ qs) res := by
  obtain ⟨p, hp, h⟩ := h
  exact ⟨p, List.mem_append_right _ hp, h⟩
theorem g_arm {b : Nat} {v : List Int} {o : Option a_B} {B : a_B} {k pc : Nat} {la : a_L} {sa : List a_V} {l : q_L} {st : List Value} {res : Option (Nat × q_L × List Value)} (ho : o = some B) (hr : res = some (pc, l, st)) (hk : v.length = k) (hB : g_B v B) (hl : g_L b v la l) (hs : g_s b v sa st) : g_PR b v (a_arm o k pc la sa) res := by
  subst ho
  exact g_P0 (List.mem_singleton.mpr rfl) hr hk hB hl hs
theorem g_pth {b : Nat} {v : List Int} {k : Nat} {B : a_B} {pc : Nat} {c : Jvm.ClassFile.Cond} {x y : a_N} {z w : Int32} {la : a_L} {sa : List a_V} {l : q_L} {st : List Value} {res : Option (Nat × q_L × List Value)} (hr : res = some (pc, l, st)) (hk : v.length = k) (hB : g_B v B) (hx1 : x.1 = false) (hy1 : y.1 = false) (hx : g_lin v x.2.1 x.2.2 z.toInt) (hy : g_lin v y.2.1 y.2.2 w.toInt) (hc : g_c c z.toInt w.toInt) (hl : g_L b v la l) (hs : g_s b v sa st) : g_PR b v (a_pth k B c x y pc la sa) res := by
  have key : ∀ c : Jvm.ClassFile.Cond, g_c c z.toInt w.toInt → g_PR b v (a_arm (a_asm B c x y) k pc la sa) res := fun c hc => by
    obtain ⟨B1, e1, g1⟩ := g_asm hB hx hy (by rw [hx1]; exact g_o32 z) (by rw [hy1]; exact g_o32 w) hc
    exact g_arm e1 hr hk g1 hl hs
  cases c with
  | ne =>
    have hc : ¬ z.toInt = w.toInt := hc
    rcases Int.lt_or_gt_of_ne hc with h | h
    · exact g_PRl (key .lt h)
    · exact g_PRr (key .gt h)
  | _ => exact key _ hc
theorem g_br {b : Nat} {v : List Int} {k : Nat} {B : a_B} {pc len : Nat} {off : Int} {c : Jvm.ClassFile.Cond} {x y : a_N} {z w : Int32} {la : a_L} {sa : List a_V} {ps : List a_P} {l : q_L} {st : List Value} (h : a_br k B pc len off c x y la sa = some ps) (hk : v.length = k) (hB : g_B v B) (hx1 : x.1 = false) (hy1 : y.1 = false) (hx : g_lin v x.2.1 x.2.2 z.toInt) (hy : g_lin v y.2.1 y.2.2 w.toInt) (hl : g_L b v la l) (hs : g_s b v sa st) : g_PR b v ps (q_br pc len off (q_c c z w) l st) := by
  unfold a_br at h
  split at h
  rotate_left
  · cases h
  rename_i hpc
  cases h
  unfold q_br
  rw [if_pos hpc]
  cases hq : q_c c z w with
  | true => exact g_PRl (g_pth rfl hk hB hx1 hy1 hx hy ((g_c32 c z w).mp hq) hl hs)
  | false => exact g_PRr (g_pth rfl hk hB hx1 hy1 hx hy (g_c_opp (fun hc => by rw [(g_c32 c z w).mpr hc] at hq; cases hq)) hl hs)
theorem g_shrb {x y : Int32} {a b : Int × Int} (hx : a.1 ≤ x.toInt ∧ x.toInt ≤ a.2) : (a_shr a b).1 ≤ (x >>> (y &&& 31)).toInt ∧ (x >>> (y &&& 31)).toInt ≤ (a_shr a b).2 := by
  rw [pk_shr x (y &&& 31) _ rfl]
  generalize ((y &&& 31).toBitVec.smod 32).toNat = k
  rw [Int.shiftRight_eq_div_pow]
  have hp : (0 : Int) < ((2 ^ k : Nat) : Int) := by exact_mod_cast Nat.two_pow_pos k
  generalize ((2 ^ k : Nat) : Int) = d at hp
  unfold a_shr
  by_cases h0 : 0 ≤ x.toInt
  · have h1 : 0 ≤ x.toInt / d := Int.ediv_nonneg h0 (Int.le_of_lt hp)
    have h2 : x.toInt / d ≤ x.toInt := Int.ediv_le_self _ h0
    split
    · exact ⟨h1, Int.le_trans h2 hx.2⟩
    · exact ⟨by simp only; omega, Int.le_trans (Int.le_trans h2 hx.2) (a_mx_l _ _)⟩
  · have h1 : x.toInt / d ≤ -1 := by
      have := Int.ediv_neg_of_neg_of_pos (a := x.toInt) (b := d) (by omega) hp
      omega
    have h2 : x.toInt ≤ x.toInt / d := by
      have e := Int.mul_ediv_add_emod x.toInt d
      have e2 := Int.emod_nonneg x.toInt (Int.ne_of_gt hp)
      have e4 : d * (x.toInt / d) ≤ 1 * (x.toInt / d) := Int.mul_le_mul_of_nonpos_right (by omega) (by omega)
      have e3 := Int.emod_lt_of_pos x.toInt hp
      by_cases q : x.toInt / d < x.toInt
      · exfalso
        have e5 : d * (x.toInt / d) ≤ d * (x.toInt - 1) := Int.mul_le_mul_of_nonneg_left (by omega) (by omega)
        have e6 : d * (x.toInt - 1) = d * x.toInt - d := by rw [Int.mul_sub, Int.mul_one]
        have e7 : d * x.toInt ≤ 1 * x.toInt := Int.mul_le_mul_of_nonpos_right (by omega) (by omega)
        omega
      · omega
    split
    · omega
    · exact ⟨Int.le_trans hx.1 h2, Int.le_trans h1 (a_mx_r _ _)⟩
theorem g_tab {b : Nat} {v : List Int} {k : Nat} {B : a_B} {pc : Nat} {x : a_N} {z : Int32} {la : a_L} {sa : List a_V} {l : q_L} {st : List Value} (hk : v.length = k) (hB : g_B v B) (hx1 : x.1 = false) (hx : g_lin v x.2.1 x.2.2 z.toInt) (hl : g_L b v la l) (hs : g_s b v sa st) :
    ∀ (offs : List Int) (j : Int) (ps : List a_P), a_tab k B pc x la sa j offs = some ps → ∀ (n : Nat) (off : Int), offs[n]? = some off → z.toInt = j + n → g_PR b v ps (q_to pc off l st)
  | [], j, ps, h, n, off, hn, hz => by simp at hn
  | o :: offs, j, ps, h, 0, off, hn, hz => by
    simp at hn
    subst hn
    unfold a_tab at h
    obtain ⟨p1, p2, e1, e2, rfl⟩ := g_cat2 h
    obtain ⟨B1, h1, h2⟩ := g_asm (c := .eq) (y := (false, none, j)) hB hx (w := j) rfl (by rw [hx1]; exact g_o32 z) (Or.inl rfl) (by show z.toInt = j; omega)
    exact g_PRl (g_to h1 e1 hk h2 hl hs)
  | o :: offs, j, ps, h, n + 1, off, hn, hz => by
    simp at hn
    unfold a_tab at h
    obtain ⟨p1, p2, e1, e2, rfl⟩ := g_cat2 h
    exact g_PRr (g_tab hk hB hx1 hx hl hs offs (j + 1) p2 e2 n off hn (by omega))
end
section
theorem g_lkp {b : Nat} {v : List Int} {k : Nat} {pc : Nat} {x : a_N} {z : Int32} {la : a_L} {sa : List a_V} {l : q_L} {st : List Value} {d : Int} (hk : v.length = k) (hx1 : x.1 = false) (hx : g_lin v x.2.1 x.2.2 z.toInt) (hl : g_L b v la l) (hs : g_s b v sa st) :
    ∀ (ps : List (Int × Int)) (o : Option a_B) (B : a_B) (rs : List a_P), o = some B → g_B v B → a_lkp k pc x la sa d o ps = some rs → g_PR b v rs (q_to pc (Op.lookupswitch.offset ps d z.toInt) l st)
  | [], o, B, rs, ho, hB, h => by
    subst ho
    unfold a_lkp at h
    exact g_to rfl h hk hB hl hs
  | p :: ps, o, B, rs, ho, hB, h => by
    subst ho
    unfold a_lkp at h
    obtain ⟨p1, p2, e1, e2, rfl⟩ := g_cat2 h
    obtain ⟨a, off⟩ := p
    rw [Op.lookupswitch.offset_cons]
    by_cases hz : z.toInt = a
    · rw [if_pos (by first | exact hz | exact hz.symm | simpa using hz | simpa using hz.symm)]
      obtain ⟨B1, h1, h2⟩ := g_asm (c := .eq) (y := (false, none, a)) hB hx (w := a) rfl (by rw [hx1]; exact g_o32 z) (Or.inl rfl) hz
      exact g_PRl (g_to h1 e1 hk h2 hl hs)
    · rw [if_neg (by first | exact hz | exact fun q => hz q.symm | simpa using hz | simpa using fun q => hz q.symm)]
      obtain ⟨B1, h1, h2⟩ := g_asm (c := .ne) (y := (false, none, a)) hB hx (w := a) rfl (by rw [hx1]; exact g_o32 z) (Or.inl rfl) hz
      exact g_PRr (g_lkp hk hx1 hx hl hs ps _ B1 p2 h1 h2 e2)
theorem g_s8 {x : Int32} (h1 : -128 ≤ x.toInt) (h2 : x.toInt ≤ 127) : x.toInt8.toInt32 = x := by
  rw [← Int32.toInt_inj, Int8.toInt_toInt32, Int32.toInt_toInt8]
  exact Int.bmod_eq_of_le (by omega) (by omega)
theorem g_s16 {x : Int32} (h1 : -32768 ≤ x.toInt) (h2 : x.toInt ≤ 32767) : x.toInt16.toInt32 = x := by
  rw [← Int32.toInt_inj, Int16.toInt_toInt32, Int32.toInt_toInt16]
  exact Int.bmod_eq_of_le (by omega) (by omega)
theorem g_b8 (x : Int32) : -128 ≤ x.toInt8.toInt32.toInt ∧ x.toInt8.toInt32.toInt ≤ 127 := by
  rw [Int8.toInt_toInt32]
  have h1 := Int8.le_toInt x.toInt8
  have h2 := Int8.toInt_lt x.toInt8
  omega
theorem g_b16 (x : Int32) : -32768 ≤ x.toInt16.toInt32.toInt ∧ x.toInt16.toInt32.toInt ≤ 32767 := by
  rw [Int16.toInt_toInt32]
  have h1 := Int16.le_toInt x.toInt16
  have h2 := Int16.toInt_lt x.toInt16
  omega
theorem g_l2i {x : Int64} (h1 : -2147483648 ≤ x.toInt) (h2 : x.toInt ≤ 2147483647) : x.toInt32.toInt = x.toInt := by
  rw [Int64.toInt_toInt32]
  exact Int.bmod_eq_of_le (by omega) (by omega)
theorem g_pure {b : Nat} {v : List Int} {k : Nat} {B : a_B} {nL pc len : Nat} {i : Instr} {la : a_L} {sa : List a_V} {ps : List a_P} {l : q_L} {st : List Value} (h : a_pure k B nL pc len i la sa = some ps) (hk : v.length = k) (hB : g_B v B) (hl : g_L b v la l) (hs : g_s b v sa st) : g_PR b v ps (q_pure nL pc len i l st) := by
  unfold a_pure at h
  split at h
  · -- iconst
    cases h
    exact g_P0 (List.mem_singleton.mpr rfl) rfl hk hB hl ⟨⟨_, rfl, rfl⟩, hs⟩
  · -- a long
    cases h
    exact g_P0 (List.mem_singleton.mpr rfl) rfl hk hB hl ⟨⟨_, rfl, rfl⟩, hs⟩
  · -- iload
    split at h
    rotate_left
    · cases h
    rename_i hg
    cases h
    obtain ⟨y, h1, h2⟩ := g_get hl hg
    obtain ⟨z, rfl, h3⟩ := h2
    exact g_P0 (st := .int z :: st) (List.mem_singleton.mpr rfl) (by simp only [q_pure, h1]) hk hB hl ⟨⟨z, rfl, h3⟩, hs⟩
  · -- lload
    split at h
    rotate_left
    · cases h
    rename_i hg
    cases h
    obtain ⟨y, h1, h2⟩ := g_get hl hg
    obtain ⟨z, rfl, h3⟩ := h2
    exact g_P0 (st := .long z :: st) (List.mem_singleton.mpr rfl) (by simp only [q_pure, h1]) hk hB hl ⟨⟨z, rfl, h3⟩, hs⟩
  · -- aload
    split at h
    · rename_i hg
      cases h
      obtain ⟨y, h1, h2⟩ := g_get hl hg
      have h2 : y = _ := h2
      subst h2
      exact g_P0 (st := .ref _ :: st) (List.mem_singleton.mpr rfl) (by simp only [q_pure, h1]) hk hB hl ⟨rfl, hs⟩
    · rename_i hg
      cases h
      obtain ⟨y, h1, h2⟩ := g_get hl hg
      have h2 : y = _ := h2
      subst h2
      exact g_P0 (st := .retAddr b :: st) (List.mem_singleton.mpr rfl) (by simp only [q_pure, h1]) hk hB hl ⟨rfl, hs⟩
    · cases h
  · -- istore
    split at h
    rotate_left
    · cases h
    split at h
    rotate_left
    · cases h
    rename_i hn
    cases h
    obtain ⟨y, ys, rfl, hy, hr⟩ := g_ca hs
    have hy0 := hy
    obtain ⟨z, rfl, h3⟩ := hy
    exact g_P0 (l := q_s1 l _ (.int z)) (st := ys) (List.mem_singleton.mpr rfl) (by simp only [q_pure, if_pos hn]) hk hB (g_s1 hl hy0) hr
  · -- astore
    split at h
    rotate_left
    · cases h
    split at h
    rotate_left
    · cases h
    rename_i hn
    cases h
    obtain ⟨y, ys, rfl, hy, hr⟩ := g_ca hs
    have hy0 := hy
    have hy : y = _ := hy
    subst hy
    exact g_P0 (l := q_s1 l _ (.ref _)) (st := ys) (List.mem_singleton.mpr rfl) (by simp only [q_pure, if_pos hn]) hk hB (g_s1 hl hy0) hr
  · -- lstore
    split at h
    rotate_left
    · cases h
    split at h
    rotate_left
    · cases h
    rename_i hn
    cases h
    obtain ⟨y, ys, rfl, hy, hr⟩ := g_ca hs
    have hy0 := hy
    obtain ⟨z, rfl, h3⟩ := hy
    exact g_P0 (l := q_s2 l _ (.long z)) (st := ys) (List.mem_singleton.mpr rfl) (by simp only [q_pure, if_pos hn]) hk hB (g_s2 hl hy0) hr
  · -- iinc
    rename_i jj nn
    split at h
    rotate_left
    · cases h
    rename_i hg
    split at h
    rotate_left
    · cases h
    rename_i hn
    obtain ⟨y, h1, h2⟩ := g_get hl hg
    obtain ⟨z, rfl, h3⟩ := h2
    rename_i o c
    have hR := g_add hk hB (x := (false, _, _)) (y := (false, none, (Int32.ofInt nn).toInt)) rfl rfl h3 (w := Int32.ofInt nn) rfl
    split at h
    rename_i k1 B1 zz hz
    cases h
    rw [hz] at hR
    obtain ⟨t, g1, g2, g3, g4⟩ := hR
    refine ⟨_, List.mem_singleton.mpr rfl, t, q_s1 l jj (.int (z + Int32.ofInt nn)), st, by simp only [q_pure, h1, if_pos hn], g1, g2, g_s1 (g_L_ext hl) ?_, g_s_ext hs⟩
    obtain ⟨lg, oo, cc⟩ := zz
    simp only at g3 g4
    subst g3
    exact ⟨_, rfl, g4⟩
  · -- iadd
    split at h
    rotate_left
    · cases h
    obtain ⟨y, ys, rfl, hy, hs1⟩ := g_ca hs
    replace hs := hs1
    obtain ⟨x, xs, rfl, hx, hs1⟩ := g_ca hs
    replace hs := hs1
    obtain ⟨w, rfl, hy⟩ := hy
    obtain ⟨z, rfl, hx⟩ := hx
    cases h
    exact g_P1 (lg := false) (g_add hk hB rfl rfl hx hy) ⟨_, rfl, rfl⟩ rfl hl hs
  · -- isub
    split at h
    rotate_left
    · cases h
    obtain ⟨y, ys, rfl, hy, hs1⟩ := g_ca hs
    replace hs := hs1
    obtain ⟨x, xs, rfl, hx, hs1⟩ := g_ca hs
    replace hs := hs1
    obtain ⟨w, rfl, hy⟩ := hy
    obtain ⟨z, rfl, hx⟩ := hx
    cases h
    exact g_P1 (lg := false) (g_sub hk hB rfl rfl hx hy) ⟨_, rfl, rfl⟩ rfl hl hs
  · -- imul
    split at h
    rotate_left
    · cases h
    obtain ⟨y, ys, rfl, hy, hs1⟩ := g_ca hs
    replace hs := hs1
    obtain ⟨x, xs, rfl, hx, hs1⟩ := g_ca hs
    replace hs := hs1
    obtain ⟨w, rfl, hy⟩ := hy
    obtain ⟨z, rfl, hx⟩ := hx
    cases h
    exact g_P1 (lg := false) (g_bin32 hk hB rfl rfl hx hy (fun _ _ => g_mulb)) ⟨_, rfl, rfl⟩ rfl hl hs
  · -- iand
    split at h
    rotate_left
    · cases h
    obtain ⟨y, ys, rfl, hy, hs1⟩ := g_ca hs
    replace hs := hs1
    obtain ⟨x, xs, rfl, hx, hs1⟩ := g_ca hs
    replace hs := hs1
    obtain ⟨w, rfl, hy⟩ := hy
    obtain ⟨z, rfl, hx⟩ := hx
    cases h
    exact g_P1 (lg := false) (g_bin32 hk hB rfl rfl hx hy (fun _ _ => g_mskb)) ⟨_, rfl, rfl⟩ rfl hl hs
  · -- ior
    split at h
    rotate_left
    · cases h
    obtain ⟨y, ys, rfl, hy, hs1⟩ := g_ca hs
    replace hs := hs1
    obtain ⟨x, xs, rfl, hx, hs1⟩ := g_ca hs
    replace hs := hs1
    obtain ⟨w, rfl, hy⟩ := hy
    obtain ⟨z, rfl, hx⟩ := hx
    cases h
    exact g_P1 (lg := false) (g_bin32 hk hB rfl rfl hx hy (fun a b _ _ => g_all32 _ a b)) ⟨_, rfl, rfl⟩ rfl hl hs
  · -- ixor
    split at h
    rotate_left
    · cases h
    obtain ⟨y, ys, rfl, hy, hs1⟩ := g_ca hs
    replace hs := hs1
    obtain ⟨x, xs, rfl, hx, hs1⟩ := g_ca hs
    replace hs := hs1
    obtain ⟨w, rfl, hy⟩ := hy
    obtain ⟨z, rfl, hx⟩ := hx
    cases h
    exact g_P1 (lg := false) (g_bin32 hk hB rfl rfl hx hy (fun a b _ _ => g_all32 _ a b)) ⟨_, rfl, rfl⟩ rfl hl hs
  · -- ishl
    split at h
    rotate_left
    · cases h
    obtain ⟨y, ys, rfl, hy, hs1⟩ := g_ca hs
    replace hs := hs1
    obtain ⟨x, xs, rfl, hx, hs1⟩ := g_ca hs
    replace hs := hs1
    obtain ⟨w, rfl, hy⟩ := hy
    obtain ⟨z, rfl, hx⟩ := hx
    cases h
    exact g_P1 (lg := false) (g_bin32 hk hB rfl rfl hx hy (fun a b _ _ => g_all32 _ a b)) ⟨_, rfl, rfl⟩ rfl hl hs
  · -- ishr
    split at h
    rotate_left
    · cases h
    obtain ⟨y, ys, rfl, hy, hs1⟩ := g_ca hs
    replace hs := hs1
    obtain ⟨x, xs, rfl, hx, hs1⟩ := g_ca hs
    replace hs := hs1
    obtain ⟨w, rfl, hy⟩ := hy
    obtain ⟨z, rfl, hx⟩ := hx
    cases h
    exact g_P1 (lg := false) (g_bin32 hk hB rfl rfl hx hy (fun _ _ h1 _ => g_shrb h1)) ⟨_, rfl, rfl⟩ rfl hl hs
  · -- iushr
    split at h
    rotate_left
    · cases h
    obtain ⟨y, ys, rfl, hy, hs1⟩ := g_ca hs
    replace hs := hs1
    obtain ⟨x, xs, rfl, hx, hs1⟩ := g_ca hs
    replace hs := hs1
    obtain ⟨w, rfl, hy⟩ := hy
    obtain ⟨z, rfl, hx⟩ := hx
    cases h
    exact g_P1 (lg := false) (g_bin32 hk hB rfl rfl hx hy (fun a b _ _ => g_all32 _ a b)) ⟨_, rfl, rfl⟩ rfl hl hs
  · -- idiv
    split at h
    rotate_left
    · cases h
    split at h
    rotate_left
    · cases h
    rename_i hnz
    obtain ⟨y, ys, rfl, hy, hs1⟩ := g_ca hs
    replace hs := hs1
    obtain ⟨x, xs, rfl, hx, hs1⟩ := g_ca hs
    replace hs := hs1
    obtain ⟨w, rfl, hy⟩ := hy
    obtain ⟨z, rfl, hx⟩ := hx
    have hw := g_nz hB rfl hy hnz
    cases h
    exact g_P1 (lg := false) (g_bin32 hk hB rfl rfl hx hy (fun a b _ _ => g_all32 _ a b)) ⟨_, rfl, rfl⟩ (by simp only [q_pure, if_neg hw]) hl hs
  · -- irem
    split at h
    rotate_left
    · cases h
    split at h
    rotate_left
    · cases h
    rename_i hnz
    obtain ⟨y, ys, rfl, hy, hs1⟩ := g_ca hs
    replace hs := hs1
    obtain ⟨x, xs, rfl, hx, hs1⟩ := g_ca hs
    replace hs := hs1
    obtain ⟨w, rfl, hy⟩ := hy
    obtain ⟨z, rfl, hx⟩ := hx
    have hw := g_nz hB rfl hy hnz
    cases h
    exact g_P1 (lg := false) (g_bin32 hk hB rfl rfl hx hy (fun a b _ _ => g_all32 _ a b)) ⟨_, rfl, rfl⟩ (by simp only [q_pure, if_neg hw]) hl hs
  · -- ladd
    split at h
    rotate_left
    · cases h
    obtain ⟨y, ys, rfl, hy, hs1⟩ := g_ca hs
    replace hs := hs1
    obtain ⟨x, xs, rfl, hx, hs1⟩ := g_ca hs
    replace hs := hs1
    obtain ⟨w, rfl, hy⟩ := hy
    obtain ⟨z, rfl, hx⟩ := hx
    cases h
    exact g_P1 (lg := true) (g_bin64 hk hB rfl rfl hx hy (fun _ _ => g_sum64)) ⟨_, rfl, rfl⟩ rfl hl hs
  · -- lsub
    split at h
    rotate_left
    · cases h
    obtain ⟨y, ys, rfl, hy, hs1⟩ := g_ca hs
    replace hs := hs1
    obtain ⟨x, xs, rfl, hx, hs1⟩ := g_ca hs
    replace hs := hs1
    obtain ⟨w, rfl, hy⟩ := hy
    obtain ⟨z, rfl, hx⟩ := hx
    cases h
    exact g_P1 (lg := true) (g_bin64 hk hB rfl rfl hx hy (fun _ _ => g_dif64)) ⟨_, rfl, rfl⟩ rfl hl hs
  · -- lmul
    split at h
    rotate_left
    · cases h
    obtain ⟨y, ys, rfl, hy, hs1⟩ := g_ca hs
    replace hs := hs1
    obtain ⟨x, xs, rfl, hx, hs1⟩ := g_ca hs
    replace hs := hs1
    obtain ⟨w, rfl, hy⟩ := hy
    obtain ⟨z, rfl, hx⟩ := hx
    cases h
    exact g_P1 (lg := true) (g_bin64 hk hB rfl rfl hx hy (fun a b _ _ => g_all64 _ a b)) ⟨_, rfl, rfl⟩ rfl hl hs
  · -- land
    split at h
    rotate_left
    · cases h
    obtain ⟨y, ys, rfl, hy, hs1⟩ := g_ca hs
    replace hs := hs1
    obtain ⟨x, xs, rfl, hx, hs1⟩ := g_ca hs
    replace hs := hs1
    obtain ⟨w, rfl, hy⟩ := hy
    obtain ⟨z, rfl, hx⟩ := hx
    cases h
    exact g_P1 (lg := true) (g_top hk hB (g_in64 _)) ⟨_, rfl, rfl⟩ rfl hl hs
  · -- lor
    split at h
    rotate_left
    · cases h
    obtain ⟨y, ys, rfl, hy, hs1⟩ := g_ca hs
    replace hs := hs1
    obtain ⟨x, xs, rfl, hx, hs1⟩ := g_ca hs
    replace hs := hs1
    obtain ⟨w, rfl, hy⟩ := hy
    obtain ⟨z, rfl, hx⟩ := hx
    cases h
    exact g_P1 (lg := true) (g_top hk hB (g_in64 _)) ⟨_, rfl, rfl⟩ rfl hl hs
  · -- lshl
    split at h
    rotate_left
    · cases h
    obtain ⟨y, ys, rfl, hy, hs1⟩ := g_ca hs
    replace hs := hs1
    obtain ⟨x, xs, rfl, hx, hs1⟩ := g_ca hs
    replace hs := hs1
    obtain ⟨w, rfl, hy⟩ := hy
    obtain ⟨z, rfl, hx⟩ := hx
    cases h
    exact g_P1 (lg := true) (g_top hk hB (g_in64 _)) ⟨_, rfl, rfl⟩ rfl hl hs
  · -- lshr
    split at h
    rotate_left
    · cases h
    obtain ⟨y, ys, rfl, hy, hs1⟩ := g_ca hs
    replace hs := hs1
    obtain ⟨x, xs, rfl, hx, hs1⟩ := g_ca hs
    replace hs := hs1
    obtain ⟨w, rfl, hy⟩ := hy
    obtain ⟨z, rfl, hx⟩ := hx
    cases h
    exact g_P1 (lg := true) (g_top hk hB (g_in64 _)) ⟨_, rfl, rfl⟩ rfl hl hs
  · -- i2l
    split at h
    rotate_left
    · cases h
    obtain ⟨y, ys, rfl, hy, hs1⟩ := g_ca hs
    replace hs := hs1
    obtain ⟨w, rfl, hy⟩ := hy
    cases h
    have hi := g_iv hB hy (g_o32 w)
    refine g_P0 (List.mem_singleton.mpr rfl) rfl hk ?_ hl ⟨⟨w.toInt64, rfl, by rw [Int32.toInt_toInt64]; exact hy⟩, hs⟩
    split
    · exact g_rf hB hy hi.1 hi.2
    · exact hB
  · -- l2i
    split at h
    rotate_left
    · cases h
    obtain ⟨y, ys, rfl, hy, hs1⟩ := g_ca hs
    replace hs := hs1
    obtain ⟨w, rfl, hy⟩ := hy
    have hi := g_iv hB hy (g_o64 w)
    split at h
    · rename_i hc
      cases h
      exact g_P0 (List.mem_singleton.mpr rfl) rfl hk hB hl ⟨⟨w.toInt32, rfl, by rw [g_l2i (by omega) (by omega)]; exact hy⟩, hs⟩
    · cases h
      exact g_P1 (lg := false) (g_top hk hB (g_in32 w.toInt32)) ⟨_, rfl, rfl⟩ rfl hl hs
  · -- i2b
    split at h
    rotate_left
    · cases h
    obtain ⟨y, ys, rfl, hy, hs1⟩ := g_ca hs
    replace hs := hs1
    obtain ⟨w, rfl, hy⟩ := hy
    have hi := g_iv hB hy (g_o32 w)
    split at h
    · rename_i hc
      cases h
      exact g_P0 (List.mem_singleton.mpr rfl) rfl hk hB hl ⟨⟨w.toInt8.toInt32, rfl, by rw [g_s8 (by omega) (by omega)]; exact hy⟩, hs⟩
    · cases h
      exact g_P1 (lg := false) (g_new hk hB (g_b8 w).1 (g_b8 w).2) ⟨_, rfl, rfl⟩ rfl hl hs
  · -- i2s
    split at h
    rotate_left
    · cases h
    obtain ⟨y, ys, rfl, hy, hs1⟩ := g_ca hs
    replace hs := hs1
    obtain ⟨w, rfl, hy⟩ := hy
    have hi := g_iv hB hy (g_o32 w)
    split at h
    · rename_i hc
      cases h
      exact g_P0 (List.mem_singleton.mpr rfl) rfl hk hB hl ⟨⟨w.toInt16.toInt32, rfl, by rw [g_s16 (by omega) (by omega)]; exact hy⟩, hs⟩
    · cases h
      exact g_P1 (lg := false) (g_new hk hB (g_b16 w).1 (g_b16 w).2) ⟨_, rfl, rfl⟩ rfl hl hs
  · -- ineg
    split at h
    rotate_left
    · cases h
    obtain ⟨y, ys, rfl, hy, hs1⟩ := g_ca hs
    replace hs := hs1
    obtain ⟨w, rfl, hy⟩ := hy
    cases h
    exact g_P1 (lg := false) (g_bin32 hk hB (x := (false, none, 0)) (z := 0) rfl rfl (by show (0 : Int32).toInt = 0; rfl) hy (fun a b _ _ => g_all32 _ a b)) ⟨_, rfl, rfl⟩ rfl hl hs
  · -- lcmp
    split at h
    rotate_left
    · cases h
    obtain ⟨y, ys, rfl, hy, hs1⟩ := g_ca hs
    replace hs := hs1
    obtain ⟨x, xs, rfl, hx, hs1⟩ := g_ca hs
    replace hs := hs1
    obtain ⟨w, rfl, hy⟩ := hy
    obtain ⟨z, rfl, hx⟩ := hx
    cases h
    by_cases h1 : w < z
    · have e1 : lg_cmp z w = 1 := by simp [lg_cmp, h1]
      obtain ⟨B1, a1, a2⟩ := g_asm (c := .gt) hB hx hy (g_o64 z) (g_o64 w) (Int64.lt_iff_toInt_lt.mp h1)
      exact g_PRr (g_arm a1 rfl hk a2 hl ⟨⟨_, rfl, by rw [e1]; rfl⟩, hs⟩)
    · by_cases h2 : z = w
      · have e1 : lg_cmp z w = 0 := by simp [lg_cmp, h2]
        obtain ⟨B1, a1, a2⟩ := g_asm (c := .eq) hB hx hy (g_o64 z) (g_o64 w) (by show z.toInt = w.toInt; rw [h2])
        exact g_PRl (g_PRr (g_arm a1 rfl hk a2 hl ⟨⟨_, rfl, by rw [e1]; rfl⟩, hs⟩))
      · have e1 : lg_cmp z w = -1 := by simp [lg_cmp, h1, h2]
        obtain ⟨B1, a1, a2⟩ := g_asm (c := .lt) hB hx hy (g_o64 z) (g_o64 w) (by
          show z.toInt < w.toInt
          have n1 : ¬ w.toInt < z.toInt := fun q => h1 (Int64.lt_iff_toInt_lt.mpr q)
          have n2 : ¬ z.toInt = w.toInt := fun q => h2 (Int64.toInt_inj.mp q)
          omega)
        exact g_PRl (g_PRl (g_arm a1 rfl hk a2 hl ⟨⟨_, rfl, by rw [e1]; rfl⟩, hs⟩))
  · -- dup
    split at h
    rotate_left
    · cases h
    split at h
    rotate_left
    · cases h
    rename_i hc
    cases h
    obtain ⟨y, ys, rfl, hy, hs1⟩ := g_ca hs
    replace hs := hs1
    exact g_P0 (st := y :: y :: ys) (List.mem_singleton.mpr rfl) (by simp only [q_pure, if_pos ((g_cat hy).symm.trans hc)]) hk hB hl ⟨hy, hy, hs⟩
  · -- pop
    split at h
    rotate_left
    · cases h
    split at h
    rotate_left
    · cases h
    rename_i hc
    cases h
    obtain ⟨y, ys, rfl, hy, hs1⟩ := g_ca hs
    replace hs := hs1
    exact g_P0 (st := ys) (List.mem_singleton.mpr rfl) (by simp only [q_pure, if_pos ((g_cat hy).symm.trans hc)]) hk hB hl hs
  · -- dup2
    split at h
    rotate_left
    · cases h
    split at h
    rotate_left
    · cases h
    rename_i hc
    cases h
    obtain ⟨y, ys, rfl, hy, hs1⟩ := g_ca hs
    replace hs := hs1
    obtain ⟨x, xs, rfl, hx, hs1⟩ := g_ca hs
    replace hs := hs1
    have c1 := (g_cat hy).symm.trans hc.1
    have c2 := (g_cat hx).symm.trans hc.2
    exact g_P0 (st := y :: x :: y :: x :: xs) (List.mem_singleton.mpr rfl) (by simp only [q_pure]; rw [if_neg (by omega), if_pos ⟨c1, c2⟩]) hk hB hl ⟨hy, hx, hy, hx, hs⟩
  · -- pop2
    split at h
    rotate_left
    · cases h
    split at h
    rotate_left
    · cases h
    rename_i hc
    cases h
    obtain ⟨y, ys, rfl, hy, hs1⟩ := g_ca hs
    replace hs := hs1
    exact g_P0 (st := ys) (List.mem_singleton.mpr rfl) (by simp only [q_pure, if_pos ((g_cat hy).symm.trans hc)]) hk hB hl hs
  · -- ifCond
    split at h
    rotate_left
    · cases h
    obtain ⟨y, ys, rfl, hy, hs1⟩ := g_ca hs
    replace hs := hs1
    obtain ⟨w, rfl, hy⟩ := hy
    exact g_br h hk hB rfl rfl hy (w := 0) (by show (0 : Int32).toInt = 0; rfl) hl hs
  · -- if_icmp
    split at h
    rotate_left
    · cases h
    obtain ⟨y, ys, rfl, hy, hs1⟩ := g_ca hs
    replace hs := hs1
    obtain ⟨x, xs, rfl, hx, hs1⟩ := g_ca hs
    replace hs := hs1
    obtain ⟨w, rfl, hy⟩ := hy
    obtain ⟨z, rfl, hx⟩ := hx
    exact g_br h hk hB rfl rfl hx hy hl hs
  · -- goto
    exact g_to rfl h hk hB hl hs
  · -- tableswitch
    rename_i d lo hi offs
    split at h
    rotate_left
    · cases h
    split at h
    rotate_left
    · cases h
    rename_i hsz
    obtain ⟨y, ys, rfl, hy, hs1⟩ := g_ca hs
    replace hs := hs1
    obtain ⟨w, rfl, hy⟩ := hy
    obtain ⟨p1, p2, e1, e2, rfl⟩ := g_cat2 h
    obtain ⟨p3, p4, e3, e4, rfl⟩ := g_cat2 e2
    simp only [q_pure]
    by_cases h1 : w.toInt < lo
    · rw [if_pos (Or.inl h1)]
      obtain ⟨B1, a1, a2⟩ := g_asm (c := .lt) (y := (false, none, lo)) hB hy (w := lo) rfl (g_o32 w) (Or.inl rfl) h1
      exact g_PRr (g_PRl (g_to a1 e3 hk a2 hl hs))
    · by_cases h2 : hi < w.toInt
      · rw [if_pos (Or.inr h2)]
        obtain ⟨B1, a1, a2⟩ := g_asm (c := .gt) (y := (false, none, hi)) hB hy (w := hi) rfl (g_o32 w) (Or.inl rfl) h2
        exact g_PRr (g_PRr (g_to a1 e4 hk a2 hl hs))
      · rw [if_neg (by omega)]
        have hlt : (w.toInt - lo).toNat < offs.toList.length := by
          rw [Array.length_toList]
          omega
        have hget : offs[(w.toInt - lo).toNat]? = some (offs.toList[(w.toInt - lo).toNat]) := by
          rw [← Array.getElem?_toList, List.getElem?_eq_getElem hlt]
        rw [hget]
        exact g_PRl (g_tab hk hB rfl hy hl hs offs.toList lo p1 e1 _ _ (List.getElem?_eq_getElem hlt) (by omega))
  · -- lookupswitch
    split at h
    rotate_left
    · cases h
    split at h
    rotate_left
    · cases h
    rename_i hc
    obtain ⟨y, ys, rfl, hy, hs1⟩ := g_ca hs
    replace hs := hs1
    obtain ⟨w, rfl, hy⟩ := hy
    simp only [q_pure]
    rw [if_pos hc]
    exact g_lkp hk rfl hy hl hs _ _ B ps rfl hB h
  · cases h
end
section
def g_C (b : Nat) (v : List Int) (x : a_C) (y : q_E) : Prop := match x with
  | .inl (t, n, .inl q) => ∃ f : Nat → Int32, y = .inl (t, n, .inl f) ∧ ∀ j, j < n → q.1 ≤ (f j).toInt ∧ (f j).toInt ≤ q.2
  | .inl (t, n, .inr (.inl vs)) => ∃ f : Nat → Int32, y = .inl (t, n, .inl f) ∧ vs.length = n ∧ ∀ (j : Nat) (x : a_N), vs[j]? = some x → x.1 = false ∧ g_lin v x.2.1 x.2.2 (f j).toInt
  | .inl (t, n, .inr (.inr (.inl _))) => ∃ f : Nat → Int64, y = .inl (t, n, .inr (.inl f))
  | .inl (t, n, .inr (.inr (.inr rs))) => ∃ f : Nat → Option Nat, y = .inl (t, n, .inr (.inr f)) ∧ rs.length = n ∧ ∀ (j : Nat) (r : Option Nat), rs[j]? = some r → f j = r
  | .inr (ci, vs) => ∃ fs : List Value, y = .inr (ci, fs) ∧ g_s b v vs fs
abbrev g_M (b : Nat) (v : List Int) (ma : List a_C) (m : q_M) : Prop := g_2 (g_C b v) ma m
theorem g_C_ext {b : Nat} {v t : List Int} {x : a_C} {y : q_E} (h : g_C b v x y) : g_C b (v ++ t) x y := by
  match x, h with
  | .inl (_, n, .inl q), h => exact h
  | .inl (_, n, .inr (.inl vs)), h =>
    obtain ⟨f, h1, h2, h3⟩ := h
    exact ⟨f, h1, h2, fun j x hx => ⟨(h3 j x hx).1, g_lin_ext (h3 j x hx).2⟩⟩
  | .inl (_, n, .inr (.inr (.inl _))), h => exact h
  | .inl (_, n, .inr (.inr (.inr rs))), h => exact h
  | .inr (ci, vs), h =>
    obtain ⟨fs, h1, h2⟩ := h
    exact ⟨fs, h1, g_s_ext h2⟩
theorem g_M_ext {b : Nat} {v t : List Int} {ma : List a_C} {m : q_M} (h : g_M b v ma m) : g_M b (v ++ t) ma m := g_2_mono (fun _ _ => g_C_ext) h
theorem g_sz {b : Nat} {v : List Int} {x : a_C} {y : q_E} (h : g_C b v x y) : a_sz x = q_sz y := by
  match x, h with
  | .inl (_, n, .inl q), h => obtain ⟨f, rfl, -⟩ := h; rfl
  | .inl (_, n, .inr (.inl vs)), h => obtain ⟨f, rfl, -⟩ := h; rfl
  | .inl (_, n, .inr (.inr (.inl _))), h => obtain ⟨f, rfl⟩ := h; rfl
  | .inl (_, n, .inr (.inr (.inr rs))), h => obtain ⟨f, rfl, -⟩ := h; rfl
  | .inr (ci, vs), h => obtain ⟨fs, rfl, h2⟩ := h; exact g_2_len h2
theorem g_sl {b : Nat} {v : List Int} : ∀ {ma : List a_C} {m : q_M}, g_M b v ma m → a_sl ma = q_sl m
  | [], [], _ => rfl
  | x :: ma, y :: m, h => by
    have ih := g_sl h.2
    simp only [a_sl, q_sl, List.map_cons, List.sum_cons] at ih ⊢
    rw [ih, g_sz h.1]
  | [], _ :: _, h => h.elim
  | _ :: _, [], h => h.elim
theorem g_ix {j : Int32} {n : Nat} (h1 : 0 ≤ j.toInt) (h2 : j.toInt < n) : q_in j n = true ∧ (j.toNatClampNeg : Int) = j.toInt ∧ j.toNatClampNeg < n ∧ ¬ j < 0 := by
  have e : j.toNatClampNeg = j.toInt.toNat := rfl
  have h3 : ¬ j < 0 := by
    rw [Int32.lt_iff_toInt_lt, Int32.toInt_zero]
    omega
  refine ⟨?_, by omega, by omega, h3⟩
  simp only [q_in, Bool.and_eq_true, Bool.not_eq_true', decide_eq_false_iff_not, decide_eq_true_eq]
  exact ⟨h3, by omega⟩
theorem g_hul {v : List Int} {B : a_B} (hB : g_B v B) : ∀ (vs : List a_N) (j : Nat) (x : a_N) (z : Int32), vs[j]? = some x → x.1 = false → g_lin v x.2.1 x.2.2 z.toInt → (a_hul B vs).1 ≤ z.toInt ∧ z.toInt ≤ (a_hul B vs).2
  | [], j, x, z, h, _, _ => by simp at h
  | [y], j, x, z, h, h1, h2 => by
    match j, h with
    | 0, h =>
      simp at h
      subst h
      exact g_iv hB h2 (by rw [h1]; exact g_o32 z)
    | j + 1, h => simp at h
  | y :: y2 :: vs, 0, x, z, h, h1, h2 => by
    simp at h
    subst h
    have := g_iv hB h2 (by rw [h1]; exact g_o32 z)
    exact ⟨Int.le_trans (a_mn_l _ _) this.1, Int.le_trans this.2 (a_mx_l _ _)⟩
  | y :: y2 :: vs, j + 1, x, z, h, h1, h2 => by
    simp at h
    have := g_hul hB (y2 :: vs) j x z (by simpa using h) h1 h2
    exact ⟨Int.le_trans (a_mn_r _ _) this.1, Int.le_trans this.2 (a_mx_r _ _)⟩
theorem g_rd {b : Nat} {v : List Int} {k : Nat} {B : a_B} (hk : v.length = k) (hB : g_B v B) {t n : Nat} {c : (Int × Int) ⊕ List a_N ⊕ Unit ⊕ List (Option Nat)} {y : q_E} (hC : g_C b v (.inl (t, n, c)) y) {iv : Int × Int} {j : Int32} (hj : iv.1 ≤ j.toInt ∧ j.toInt ≤ iv.2) (h0 : 0 ≤ iv.1) (hn : iv.2 < n) {z : Nat × a_B × a_N} (h : a_rd k B c iv = some z) :
    ∃ f : Nat → Int32, y = .inl (t, n, .inl f) ∧ g_R v z false (f j.toNatClampNeg).toInt := by
  obtain ⟨hq, he, hlt, -⟩ := g_ix (j := j) (n := n) (by omega) (by omega)
  match c, hC, h with
  | .inl q, hC, h =>
    obtain ⟨f, h1, h2⟩ := hC
    refine ⟨f, h1, ?_⟩
    have hh := h2 _ hlt
    simp only [a_rd] at h
    split at h
    · rename_i hq2
      cases h
      exact g_R0 hk hB rfl (by show (f j.toNatClampNeg).toInt = q.1; omega)
    · cases h
      exact g_new hk hB hh.1 hh.2
  | .inr (.inl vs), hC, h =>
    obtain ⟨f, h1, h2, h3⟩ := hC
    refine ⟨f, h1, ?_⟩
    simp only [a_rd] at h
    split at h
    · rename_i hs
      split at h
      · rename_i x hx
        cases h
        have e2 : iv.1.toNat = j.toNatClampNeg := by omega
        rw [e2] at hx
        exact g_R0 hk hB (h3 _ _ hx).1 (h3 _ _ hx).2
      · cases h
    · cases h
      have hl : j.toNatClampNeg < vs.length := by omega
      have hx := List.getElem?_eq_getElem hl
      have hh := g_hul hB vs _ _ (f j.toNatClampNeg) hx (h3 _ _ hx).1 (h3 _ _ hx).2
      exact g_new hk hB hh.1 hh.2
theorem g_upd_u {f : Nat → Int32} {n j : Nat} {w : Int32} {lo hi lo2 hi2 : Int} (h : ∀ i, i < n → lo ≤ (f i).toInt ∧ (f i).toInt ≤ hi) (hw : lo2 ≤ w.toInt ∧ w.toInt ≤ hi2) : ∀ i, i < n → a_mn lo lo2 ≤ (upd f j w i).toInt ∧ (upd f j w i).toInt ≤ a_mx hi hi2 := by
  intro i hi
  unfold upd
  split
  · exact ⟨Int.le_trans (a_mn_r _ _) hw.1, Int.le_trans hw.2 (a_mx_r _ _)⟩
  · exact ⟨Int.le_trans (a_mn_l _ _) (h i hi).1, Int.le_trans (h i hi).2 (a_mx_l _ _)⟩
theorem g_put {b : Nat} {v : List Int} {B : a_B} (hB : g_B v B) {t n : Nat} {c c1 : (Int × Int) ⊕ List a_N ⊕ Unit ⊕ List (Option Nat)} {y : q_E} (hC : g_C b v (.inl (t, n, c)) y) {iv : Int × Int} {j : Int32} (hj : iv.1 ≤ j.toInt ∧ j.toInt ≤ iv.2) (h0 : 0 ≤ iv.1) (hn : iv.2 < n) {x : a_N} {w : Int32} (hx1 : x.1 = false) (hx : g_lin v x.2.1 x.2.2 w.toInt) (h : a_put B c iv x = some c1) :
    ∃ f : Nat → Int32, y = .inl (t, n, .inl f) ∧ g_C b v (.inl (t, n, c1)) (.inl (t, n, .inl (upd f j.toNatClampNeg w))) := by
  obtain ⟨hq, he, hlt, -⟩ := g_ix (j := j) (n := n) (by omega) (by omega)
  have hw := g_iv hB hx (by rw [hx1]; exact g_o32 w)
  match c, hC, h with
  | .inl q, hC, h =>
    obtain ⟨f, h1, h2⟩ := hC
    refine ⟨f, h1, ?_⟩
    cases h
    exact ⟨_, rfl, g_upd_u h2 hw⟩
  | .inr (.inl vs), hC, h =>
    obtain ⟨f, h1, h2, h3⟩ := hC
    refine ⟨f, h1, ?_⟩
    simp only [a_put] at h
    split at h
    · rename_i hs
      cases h
      have e2 : iv.1.toNat = j.toNatClampNeg := by omega
      refine ⟨_, rfl, by rw [List.length_set]; exact h2, fun i y hy => ?_⟩
      rw [e2] at hy
      unfold upd
      by_cases hi : i = j.toNatClampNeg
      · subst hi
        rw [List.getElem?_set_self (by omega)] at hy
        cases hy
        rw [if_pos rfl]
        exact ⟨hx1, hx⟩
      · rw [List.getElem?_set_ne (fun q => hi q.symm)] at hy
        rw [if_neg hi]
        exact h3 i y hy
    · cases h
      refine ⟨_, rfl, g_upd_u (fun i hi => ?_) hw⟩
      have hl : i < vs.length := by omega
      have hx := List.getElem?_eq_getElem hl
      exact g_hul hB vs _ _ (f i) hx (h3 _ _ hx).1 (h3 _ _ hx).2
def g_QR (b : Nat) (v : List Int) (ps : List a_Q) (res : Option (List Value × q_M)) : Prop := ∃ p ∈ ps, ∃ (t : List Int) (st1 : List Value) (m1 : q_M), res = some (st1, m1) ∧ (v ++ t).length = p.1 ∧ g_B (v ++ t) p.2.1 ∧ g_s b (v ++ t) p.2.2.1 st1 ∧ g_M b (v ++ t) p.2.2.2 m1
theorem g_Q0 {b : Nat} {v : List Int} {k : Nat} {B : a_B} {sa : List a_V} {ma : List a_C} {ps : List a_Q} {st : List Value} {m : q_M} {res : Option (List Value × q_M)} (hm : (k, B, sa, ma) ∈ ps) (hr : res = some (st, m)) (hk : v.length = k) (hB : g_B v B) (hs : g_s b v sa st) (hM : g_M b v ma m) : g_QR b v ps res :=
  ⟨_, hm, [], st, m, hr, by simpa using hk, by simpa using hB, by simpa using hs, by simpa using hM⟩
theorem g_Q1 {b : Nat} {v : List Int} {z : Nat × a_B × a_N} {lg : Bool} {w : Int} (hR : g_R v z lg w) {y : Value} (hy : match lg with | false => ∃ c : Int32, y = .int c ∧ c.toInt = w | true => ∃ c : Int64, y = .long c ∧ c.toInt = w) {sa : List a_V} {ma : List a_C} {st : List Value} {m : q_M} {res : Option (List Value × q_M)} (hr : res = some (y :: st, m)) (hs : g_s b v sa st) (hM : g_M b v ma m) : g_QR b v [(z.1, z.2.1, .inl z.2.2 :: sa, ma)] res := by
  obtain ⟨t, h1, h2, h3, h4⟩ := hR
  refine ⟨_, List.mem_singleton.mpr rfl, t, _, m, hr, h1, h2, ⟨?_, g_s_ext hs⟩, g_M_ext hM⟩
  obtain ⟨k1, B1, lg1, o, c⟩ := z
  simp only at h3 h4
  subst h3
  cases lg1 with
  | false =>
    obtain ⟨c1, rfl, rfl⟩ := hy
    exact ⟨c1, rfl, h4⟩
  | true =>
    obtain ⟨c1, rfl, rfl⟩ := hy
    exact ⟨c1, rfl, h4⟩
theorem g_fit {b : Nat} {v : List Int} {ty : FieldType} {x : a_V} {y : Value} (h : a_fit ty x = true) (hv : g_v b v x y) : narrow ty y = y ∧ fits ty y = true := by
  unfold a_fit at h
  split at h
  · obtain ⟨z, rfl, -⟩ := hv; exact ⟨rfl, rfl⟩
  · obtain ⟨z, rfl, -⟩ := hv; exact ⟨rfl, rfl⟩
  · rename_i o
    cases o with
    | none => have hv : y = .null := hv; subst hv; exact ⟨rfl, rfl⟩
    | some a => have hv : y = .ref a := hv; subst hv; exact ⟨rfl, rfl⟩
  · rename_i o
    cases o with
    | none => have hv : y = .null := hv; subst hv; exact ⟨rfl, rfl⟩
    | some a => have hv : y = .ref a := hv; subst hv; exact ⟨rfl, rfl⟩
  · cases h
theorem g_refs {b : Nat} {v : List Int} {k : Nat} {B : a_B} {x : a_N} {z : Int32} {sa : List a_V} {ma : List a_C} {st : List Value} {m : q_M} (hk : v.length = k) (hB : g_B v B) (hx1 : x.1 = false) (hx : g_lin v x.2.1 x.2.2 z.toInt) (hs : g_s b v sa st) (hM : g_M b v ma m) :
    ∀ (rs : List (Option Nat)) (j : Int) (n : Nat) (o : Option Nat), rs[n]? = some o → z.toInt = j + n → g_QR b v (a_ref k B x sa ma j rs) (some (va_rf o :: st, m))
  | [], j, n, o, hn, hz => by simp at hn
  | r :: rs, j, 0, o, hn, hz => by
    simp at hn
    subst hn
    unfold a_ref
    obtain ⟨B1, h1, h2⟩ := g_asm (c := .eq) (y := (false, none, j)) hB hx (w := j) rfl (by rw [hx1]; exact g_o32 z) (Or.inl rfl) (by show z.toInt = j; omega)
    rw [h1]
    refine g_Q0 (List.mem_append_left _ (List.mem_singleton.mpr rfl)) rfl hk h2 ⟨?_, hs⟩ hM
    cases r <;> rfl
  | r :: rs, j, n + 1, o, hn, hz => by
    simp at hn
    unfold a_ref
    obtain ⟨p, hp, h⟩ := g_refs hk hB hx1 hx hs hM rs (j + 1) n o hn (by omega)
    exact ⟨p, List.mem_append_right _ hp, h⟩
theorem g_ac {b : Nat} {v : List Int} : ∀ {sa : List a_V} {st : List Value}, g_s b v sa st → a_ac sa = q_cats st
  | [], [], _ => rfl
  | x :: sa, y :: st, h => by
    have ih := g_ac h.2
    simp only [a_ac, q_cats, List.map_cons, List.sum_cons] at ih ⊢
    rw [ih, g_cat h.1]
  | [], _ :: _, h => h.elim
  | _ :: _, [], h => h.elim
theorem g_cpyu {f g : Nat → Int32} {n0 n1 sp dp w : Nat} {a1 a2 b1 b2 : Int} (hf : ∀ j, j < n0 → a1 ≤ (f j).toInt ∧ (f j).toInt ≤ a2) (hg : ∀ j, j < n1 → b1 ≤ (g j).toInt ∧ (g j).toInt ≤ b2) (hs : sp + w ≤ n0) : ∀ j, j < n1 → a_mn a1 b1 ≤ (va_cpy f g sp dp w j).toInt ∧ (va_cpy f g sp dp w j).toInt ≤ a_mx a2 b2 := by
  intro j hj
  unfold va_cpy
  split
  · have := hf (sp + (j - dp)) (by omega)
    exact ⟨Int.le_trans (a_mn_l _ _) this.1, Int.le_trans this.2 (a_mx_l _ _)⟩
  · exact ⟨Int.le_trans (a_mn_r _ _) (hg j hj).1, Int.le_trans (hg j hj).2 (a_mx_r _ _)⟩
theorem g_bool (x : Int32) : 0 ≤ (vp_nar .boolean x).toInt ∧ (vp_nar .boolean x).toInt ≤ 1 := by
  have h := g_and_r (x := x) (y := 1) (by decide)
  have e : vp_nar .boolean x = x &&& 1 := rfl
  rw [e]
  have e1 : (1 : Int32).toInt = 1 := by decide
  omega
theorem g_len {n : Nat} (h : n < 2147483648) : (Int32.ofNat n).toInt = (n : Int) := nI_toInt (n := n) (by omega)
end
section
theorem g_ain {v : List Int} {B : a_B} (hB : g_B v B) {x : Option Nat × Int} {j : Int32} {n : Nat} (hx : g_lin v x.1 x.2 j.toInt) (h : a_in B (false, x) n = true) : ((a_iv B (false, x)).1 ≤ j.toInt ∧ j.toInt ≤ (a_iv B (false, x)).2) ∧ 0 ≤ (a_iv B (false, x)).1 ∧ (a_iv B (false, x)).2 < n := by
  have hj := g_iv hB (x := (false, x)) hx (g_o32 j)
  simp only [a_in, decide_eq_true_eq] at h
  exact ⟨hj, h.1, h.2⟩
theorem g_mem {G : q_G} {b : Nat} {v : List Int} {k : Nat} {B : a_B} {fr lo : Nat} {i : Instr} {sa : List a_V} {ma : List a_C} {ps : List a_Q} {st : List Value} {m : q_M} (h : a_mem G k B fr lo i sa ma = some ps) (hk : v.length = k) (hB : g_B v B) (hs : g_s b v sa st) (hM : g_M b v ma m) : g_QR b v ps (q_mem G fr lo i st m) := by
  unfold a_mem at h
  split at h
  · -- getfield
    split at h
    rotate_left
    · cases h
    split at h
    rotate_left
    · cases h
    rename_i a r _ ci fs hm
    split at h
    rotate_left
    · cases h
    rename_i hci
    split at h
    rotate_left
    · cases h
    rename_i x hx
    cases h
    obtain ⟨y, ys, rfl, hy, hs1⟩ := g_ca hs
    replace hs := hs1
    have hy : y = .ref a := hy
    subst hy
    obtain ⟨c, hc1, hc2⟩ := g_2_get hM hm
    obtain ⟨fs2, rfl, hf⟩ := hc2
    obtain ⟨z, hz1, hz2⟩ := g_2_get hf hx
    exact g_Q0 (st := z :: ys) (List.mem_singleton.mpr rfl) (by simp only [q_mem, hc1, if_pos hci, hz1]) hk hB ⟨hz2, hs⟩ hM
  · -- putfield
    split at h
    rotate_left
    · cases h
    split at h
    rotate_left
    · cases h
    rename_i x a r _ ci fs hm
    split at h
    rotate_left
    · cases h
    rename_i hc
    obtain ⟨hci, hlen, hfit⟩ := hc
    cases h
    obtain ⟨w, ws, rfl, hw, hs1⟩ := g_ca hs
    replace hs := hs1
    obtain ⟨y, ys, rfl, hy, hs1⟩ := g_ca hs
    replace hs := hs1
    have hy : y = .ref a := hy
    subst hy
    obtain ⟨c, hc1, hc2⟩ := g_2_get hM hm
    obtain ⟨fs2, rfl, hf⟩ := hc2
    obtain ⟨n1, n2⟩ := g_fit hfit hw
    exact g_Q0 (List.mem_singleton.mpr rfl) (by simp only [q_mem, hc1]; rw [if_pos ⟨hci, by rw [← g_2_len hf]; exact hlen, n1, n2⟩]) hk hB hs (g_2_set hM ⟨_, rfl, g_2_set hf hw⟩)
  · -- iaload
    split at h
    rotate_left
    · cases h
    split at h
    rotate_left
    · cases h
    rename_i x a r _ t n c hm
    split at h
    rotate_left
    · cases h
    rename_i hc
    obtain ⟨rfl, hin⟩ := hc
    split at h
    rotate_left
    · cases h
    rename_i z hz
    cases h
    obtain ⟨w, ws, rfl, hw, hs1⟩ := g_ca hs
    replace hs := hs1
    obtain ⟨y, ys, rfl, hy, hs1⟩ := g_ca hs
    replace hs := hs1
    have hy : y = .ref a := hy
    subst hy
    obtain ⟨j, rfl, hj⟩ := hw
    obtain ⟨h1, h2, h3⟩ := g_ain hB hj hin
    dsimp only at h1 h2 h3
    obtain ⟨cc, hc1, hc2⟩ := g_2_get hM hm
    obtain ⟨f, rfl, hR⟩ := g_rd hk hB hc2 h1 h2 h3 hz
    have hq := (g_ix (j := j) (n := n) (by omega) (by omega)).1
    exact g_Q1 (lg := false) hR ⟨_, rfl, rfl⟩ (by simp only [q_mem, hc1]; rw [if_pos ⟨trivial, hq⟩]) hs hM
  · -- baload
    split at h
    rotate_left
    · cases h
    split at h
    rotate_left
    · cases h
    rename_i x a r _ t n c hm
    split at h
    rotate_left
    · cases h
    rename_i hc
    obtain ⟨ht, hin⟩ := hc
    split at h
    rotate_left
    · cases h
    rename_i z hz
    cases h
    obtain ⟨w, ws, rfl, hw, hs1⟩ := g_ca hs
    replace hs := hs1
    obtain ⟨y, ys, rfl, hy, hs1⟩ := g_ca hs
    replace hs := hs1
    have hy : y = .ref a := hy
    subst hy
    obtain ⟨j, rfl, hj⟩ := hw
    obtain ⟨h1, h2, h3⟩ := g_ain hB hj hin
    dsimp only at h1 h2 h3
    obtain ⟨cc, hc1, hc2⟩ := g_2_get hM hm
    obtain ⟨f, rfl, hR⟩ := g_rd hk hB hc2 h1 h2 h3 hz
    have hq := (g_ix (j := j) (n := n) (by omega) (by omega)).1
    exact g_Q1 (lg := false) hR ⟨_, rfl, rfl⟩ (by simp only [q_mem, hc1]; rw [if_pos ⟨ht, hq⟩]) hs hM
  · -- laload
    split at h
    rotate_left
    · cases h
    split at h
    rotate_left
    · cases h
    rename_i x a r _ t n _ hm
    split at h
    rotate_left
    · cases h
    rename_i hc
    obtain ⟨rfl, hin⟩ := hc
    cases h
    obtain ⟨w, ws, rfl, hw, hs1⟩ := g_ca hs
    replace hs := hs1
    obtain ⟨y, ys, rfl, hy, hs1⟩ := g_ca hs
    replace hs := hs1
    have hy : y = .ref a := hy
    subst hy
    obtain ⟨j, rfl, hj⟩ := hw
    obtain ⟨h1, h2, h3⟩ := g_ain hB hj hin
    dsimp only at h1 h2 h3
    obtain ⟨cc, hc1, hc2⟩ := g_2_get hM hm
    obtain ⟨f, rfl⟩ := hc2
    have hq := (g_ix (j := j) (n := n) (by omega) (by omega)).1
    exact g_Q1 (lg := true) (g_top hk hB (g_in64 (f j.toNatClampNeg))) ⟨_, rfl, rfl⟩ (by simp only [q_mem, hc1]; rw [if_pos ⟨trivial, hq⟩]) hs hM
  · -- aaload
    split at h
    rotate_left
    · cases h
    split at h
    rotate_left
    · cases h
    rename_i x a r _ t n rs hm
    split at h
    rotate_left
    · cases h
    rename_i hc
    obtain ⟨ht, ht2, hin, hrl⟩ := hc
    cases h
    obtain ⟨w, ws, rfl, hw, hs1⟩ := g_ca hs
    replace hs := hs1
    obtain ⟨y, ys, rfl, hy, hs1⟩ := g_ca hs
    replace hs := hs1
    have hy : y = .ref a := hy
    subst hy
    obtain ⟨j, rfl, hj⟩ := hw
    obtain ⟨h1, h2, h3⟩ := g_ain hB hj hin
    dsimp only at h1 h2 h3
    obtain ⟨cc, hc1, hc2⟩ := g_2_get hM hm
    obtain ⟨f, rfl, hfl, hf⟩ := hc2
    obtain ⟨hq, he, hlt, -⟩ := g_ix (j := j) (n := n) (by omega) (by omega)
    have hget := List.getElem?_eq_getElem (l := rs) (i := j.toNatClampNeg) (by omega)
    have hfj := hf _ _ hget
    have K := g_refs (b := b) hk hB (x := (false, x)) rfl hj hs hM rs 0 j.toNatClampNeg _ hget (by omega)
    simp only [q_mem, hc1]
    rw [if_pos ⟨ht, hq, ht2⟩, hfj]
    exact K
  · -- iastore
    split at h
    rotate_left
    · cases h
    split at h
    rotate_left
    · cases h
    rename_i x0 x a r _ t n c hm
    split at h
    rotate_left
    · cases h
    rename_i hc
    obtain ⟨rfl, hin⟩ := hc
    split at h
    rotate_left
    · cases h
    rename_i c1 hc1'
    cases h
    obtain ⟨u, us, rfl, hu, hs1⟩ := g_ca hs
    replace hs := hs1
    obtain ⟨w, ws, rfl, hw, hs1⟩ := g_ca hs
    replace hs := hs1
    obtain ⟨y, ys, rfl, hy, hs1⟩ := g_ca hs
    replace hs := hs1
    have hy : y = .ref a := hy
    subst hy
    obtain ⟨j, rfl, hj⟩ := hw
    obtain ⟨e0, rfl, he0⟩ := hu
    obtain ⟨h1, h2, h3⟩ := g_ain hB hj hin
    dsimp only at h1 h2 h3
    obtain ⟨cc, hc1, hc2⟩ := g_2_get hM hm
    obtain ⟨f, rfl, hC⟩ := g_put hB hc2 h1 h2 h3 (x := (false, x0)) rfl he0 hc1'
    have hq := (g_ix (j := j) (n := n) (by omega) (by omega)).1
    exact g_Q0 (List.mem_singleton.mpr rfl) (by simp only [q_mem, hc1]; rw [if_pos ⟨trivial, hq⟩]) hk hB hs (g_2_set hM hC)
  · -- bastore
    split at h
    rotate_left
    · cases h
    split at h
    rotate_left
    · cases h
    rename_i x0 x a r _ t n q0 hm
    split at h
    rotate_left
    · cases h
    rename_i hin
    obtain ⟨u, us, rfl, hu, hs1⟩ := g_ca hs
    replace hs := hs1
    obtain ⟨w, ws, rfl, hw, hs1⟩ := g_ca hs
    replace hs := hs1
    obtain ⟨y, ys, rfl, hy, hs1⟩ := g_ca hs
    replace hs := hs1
    have hy : y = .ref a := hy
    subst hy
    obtain ⟨j, rfl, hj⟩ := hw
    obtain ⟨e0, rfl, he0⟩ := hu
    obtain ⟨h1, h2, h3⟩ := g_ain hB hj hin
    dsimp only at h1 h2 h3
    obtain ⟨cc, hc1, hc2⟩ := g_2_get hM hm
    obtain ⟨f, rfl, hf⟩ := hc2
    have hq := (g_ix (j := j) (n := n) (by omega) (by omega)).1
    split at h
    · rename_i ht
      subst ht
      cases h
      exact g_Q0 (m := m.set a (.inl (2, n, .inl (upd f j.toNatClampNeg (vp_nar .byte e0))))) (List.mem_singleton.mpr rfl) (by simp only [q_mem, hc1]; rw [if_pos ⟨trivial, hq⟩]) hk hB hs (g_2_set hM ⟨_, rfl, g_upd_u hf (g_b8 e0)⟩)
    · split at h
      rotate_left
      · cases h
      rename_i ht
      subst ht
      cases h
      exact g_Q0 (m := m.set a (.inl (3, n, .inl (upd f j.toNatClampNeg (vp_nar .boolean e0))))) (List.mem_singleton.mpr rfl) (by simp only [q_mem, hc1]; rw [if_neg (fun z => absurd z.1 (by decide)), if_pos ⟨trivial, hq⟩]) hk hB hs (g_2_set hM ⟨_, rfl, g_upd_u hf (g_bool e0)⟩)
  · -- lastore
    split at h
    rotate_left
    · cases h
    split at h
    rotate_left
    · cases h
    rename_i x0 x a r _ t n u0 hm
    split at h
    rotate_left
    · cases h
    rename_i hc
    obtain ⟨rfl, hin⟩ := hc
    cases h
    obtain ⟨u, us, rfl, hu, hs1⟩ := g_ca hs
    replace hs := hs1
    obtain ⟨w, ws, rfl, hw, hs1⟩ := g_ca hs
    replace hs := hs1
    obtain ⟨y, ys, rfl, hy, hs1⟩ := g_ca hs
    replace hs := hs1
    have hy : y = .ref a := hy
    subst hy
    obtain ⟨j, rfl, hj⟩ := hw
    obtain ⟨e0, rfl, he0⟩ := hu
    obtain ⟨h1, h2, h3⟩ := g_ain hB hj hin
    dsimp only at h1 h2 h3
    obtain ⟨cc, hc1, hc2⟩ := g_2_get hM hm
    obtain ⟨f, rfl⟩ := hc2
    have hq := (g_ix (j := j) (n := n) (by omega) (by omega)).1
    have hM2 := g_2_set (i := a) hM (a := .inl (1, n, .inr (.inr (.inl u0)))) (b := .inl (1, n, .inr (.inl (vp_updL f j.toNatClampNeg e0)))) ⟨_, rfl⟩
    have e9 : ma.set a (.inl (1, n, .inr (.inr (.inl u0)))) = ma := by
      apply List.ext_getElem?
      intro z
      rw [List.getElem?_set]
      split
      · rename_i hz
        subst hz
        split
        · exact hm.symm
        · rename_i hl
          exact absurd (List.getElem?_eq_some_iff.mp hm).1 hl
      · rfl
    rw [e9] at hM2
    exact g_Q0 (List.mem_singleton.mpr rfl) (by simp only [q_mem, hc1]; rw [if_pos ⟨trivial, hq⟩]) hk hB hs hM2
  · -- aastore
    split at h
    rotate_left
    · cases h
    split at h
    rotate_left
    · cases h
    rename_i x0 x a r _ _ t n rs ci _ hm hmv
    split at h
    rotate_left
    · cases h
    rename_i hc
    obtain ⟨ht, hin, hsing, hty, hty2⟩ := hc
    cases h
    obtain ⟨u, us, rfl, hu, hs1⟩ := g_ca hs
    replace hs := hs1
    obtain ⟨w, ws, rfl, hw, hs1⟩ := g_ca hs
    replace hs := hs1
    obtain ⟨y, ys, rfl, hy, hs1⟩ := g_ca hs
    replace hs := hs1
    have hy : y = .ref a := hy
    subst hy
    have hu : u = .ref x0 := hu
    subst hu
    obtain ⟨j, rfl, hj⟩ := hw
    obtain ⟨h1, h2, h3⟩ := g_ain hB hj hin
    dsimp only at h1 h2 h3
    obtain ⟨cc, hc1, hc2⟩ := g_2_get hM hm
    obtain ⟨f, rfl, hfl, hf⟩ := hc2
    obtain ⟨cc2, hc3, hc4⟩ := g_2_get hM hmv
    obtain ⟨fs2, rfl, -⟩ := hc4
    obtain ⟨hq, he, hlt, -⟩ := g_ix (j := j) (n := n) (by omega) (by omega)
    refine g_Q0 (List.mem_singleton.mpr rfl) (by simp only [q_mem, hc1, hc3]; rw [if_pos ⟨ht, hq, hty, hty2⟩]) hk hB hs (g_2_set hM ⟨_, rfl, by rw [List.length_set]; exact hfl, fun i y hy => ?_⟩)
    have e2 : (a_iv B (false, x)).1.toNat = j.toNatClampNeg := by omega
    rw [e2] at hy
    unfold va_up
    by_cases hi : i = j.toNatClampNeg
    · subst hi
      rw [List.getElem?_set_self (by omega)] at hy
      cases hy
      rw [if_pos rfl]
    · rw [List.getElem?_set_ne (fun q => hi q.symm)] at hy
      rw [if_neg hi]
      exact hf i y hy
  · -- arraylength
    split at h
    rotate_left
    · cases h
    split at h
    rotate_left
    · cases h
    rename_i a r _ t n c hm
    split at h
    rotate_left
    · cases h
    rename_i hc
    cases h
    obtain ⟨y, ys, rfl, hy, hs1⟩ := g_ca hs
    replace hs := hs1
    have hy : y = .ref a := hy
    subst hy
    obtain ⟨cc, hc1, hc2⟩ := g_2_get hM hm
    have hcell : ∃ z, cc = .inl (t, n, z) := by
      match c, hc2 with
      | .inl q, hc2 => obtain ⟨f, rfl, -⟩ := hc2; exact ⟨_, rfl⟩
      | .inr (.inl vs), hc2 => obtain ⟨f, rfl, -⟩ := hc2; exact ⟨_, rfl⟩
      | .inr (.inr (.inl _)), hc2 => obtain ⟨f, rfl⟩ := hc2; exact ⟨_, rfl⟩
      | .inr (.inr (.inr rs)), hc2 => obtain ⟨f, rfl, -⟩ := hc2; exact ⟨_, rfl⟩
    obtain ⟨z, rfl⟩ := hcell
    exact g_Q0 (st := .int (Int32.ofNat n) :: ys) (List.mem_singleton.mpr rfl) (by simp only [q_mem, hc1]; rw [if_pos hc.1]) hk hB ⟨⟨_, rfl, g_len hc.2⟩, hs⟩ hM
  · -- Object's own start, a row copied
    split at h
    · rename_i hn
      split at h
      rotate_left
      · cases h
      split at h
      rotate_left
      · cases h
      rename_i hc
      cases h
      obtain ⟨y, ys, rfl, hy, hs1⟩ := g_ca hs
      replace hs := hs1
      have hy : y = .ref _ := hy
      subst hy
      exact g_Q0 (List.mem_singleton.mpr rfl) (by simp only [q_mem]; rw [if_pos hn, if_pos ⟨hc.1, by rw [← g_ac hs]; exact hc.2⟩]) hk hB hs hM
    · rename_i hn0
      split at h
      rotate_left
      · cases h
      rename_i hn
      split at h
      rotate_left
      · cases h
      rename_i wv dv d sv j r
      split at h
      rotate_left
      · cases h
      rename_i hc
      obtain ⟨y1, s1, rfl, hy1, hs1⟩ := g_ca hs
      replace hs := hs1
      obtain ⟨y2, s2, rfl, hy2, hs1⟩ := g_ca hs
      replace hs := hs1
      obtain ⟨y3, s3, rfl, hy3, hs1⟩ := g_ca hs
      replace hs := hs1
      obtain ⟨y4, s4, rfl, hy4, hs1⟩ := g_ca hs
      replace hs := hs1
      obtain ⟨y5, s5, rfl, hy5, hs1⟩ := g_ca hs
      replace hs := hs1
      have hy3 : y3 = .ref _ := hy3
      subst hy3
      have hy5 : y5 = .ref _ := hy5
      subst hy5
      obtain ⟨w, rfl, hy1⟩ := hy1
      obtain ⟨dp, rfl, hy2⟩ := hy2
      obtain ⟨sp, rfl, hy4⟩ := hy4
      have i1 := g_iv hB (x := (false, _)) hy1 (g_o32 w)
      have i2 := g_iv hB (x := (false, _)) hy2 (g_o32 dp)
      have i4 := g_iv hB (x := (false, _)) hy4 (g_o32 sp)
      unfold a_cpy at h
      split at h
      · rename_i t0 n0 q0 t1 n1 p0 hm0 hm1
        split at h
        rotate_left
        · cases h
        rename_i hd
        obtain ⟨rfl, rfl, d1, d2, d3, d4, d5⟩ := hd
        cases h
        obtain ⟨c0, hc0, hg0⟩ := g_2_get hM hm0
        obtain ⟨c1, hc1, hg1⟩ := g_2_get hM hm1
        obtain ⟨f, rfl, hf⟩ := hg0
        obtain ⟨g, rfl, hg⟩ := hg1
        have n1' : ¬ w < 0 := by rw [Int32.lt_iff_toInt_lt, Int32.toInt_zero]; omega
        have n2' : ¬ dp < 0 := by rw [Int32.lt_iff_toInt_lt, Int32.toInt_zero]; omega
        have n4' : ¬ sp < 0 := by rw [Int32.lt_iff_toInt_lt, Int32.toInt_zero]; omega
        have e1 : w.toNatClampNeg = w.toInt.toNat := rfl
        have e2 : dp.toNatClampNeg = dp.toInt.toNat := rfl
        have e4 : sp.toNatClampNeg = sp.toInt.toNat := rfl
        exact g_Q0 (List.mem_singleton.mpr rfl) (by
          simp only [q_mem]
          rw [if_neg hn0, if_pos hn]
          simp only [q_copy]
          rw [if_pos ⟨hc.1, by rw [← g_ac hs]; exact hc.2, n4', n2', n1'⟩]
          simp only [q_cpy, hc0, hc1]
          rw [if_pos ⟨trivial, trivial, by omega, by omega⟩]) hk hB hs (g_2_set hM ⟨_, rfl, g_cpyu hf hg (by omega)⟩)
      · rename_i t0 n0 u0 t1 n1 u1 hm0 hm1
        split at h
        rotate_left
        · cases h
        rename_i hd
        obtain ⟨rfl, rfl, d1, d2, d3, d4, d5⟩ := hd
        cases h
        obtain ⟨c0, hc0, hg0⟩ := g_2_get hM hm0
        obtain ⟨c1, hc1, hg1⟩ := g_2_get hM hm1
        obtain ⟨f, rfl⟩ := hg0
        obtain ⟨g, rfl⟩ := hg1
        have n1' : ¬ w < 0 := by rw [Int32.lt_iff_toInt_lt, Int32.toInt_zero]; omega
        have n2' : ¬ dp < 0 := by rw [Int32.lt_iff_toInt_lt, Int32.toInt_zero]; omega
        have n4' : ¬ sp < 0 := by rw [Int32.lt_iff_toInt_lt, Int32.toInt_zero]; omega
        have e1 : w.toNatClampNeg = w.toInt.toNat := rfl
        have e2 : dp.toNatClampNeg = dp.toInt.toNat := rfl
        have e4 : sp.toNatClampNeg = sp.toInt.toNat := rfl
        exact g_Q0 (List.mem_singleton.mpr rfl) (by
          simp only [q_mem]
          rw [if_neg hn0, if_pos hn]
          simp only [q_copy]
          rw [if_pos ⟨hc.1, by rw [← g_ac hs]; exact hc.2, n4', n2', n1'⟩]
          simp only [q_cpy, hc0, hc1]
          rw [if_pos ⟨trivial, trivial, by omega, by omega⟩]) hk hB hs (g_2_set hM ⟨_, rfl⟩)
      · cases h
  · cases h
end
section
theorem g_dft {b : Nat} {v : List Int} {ty : FieldType} {x : a_V} (h : a_dft ty = some x) : g_v b v x (defaultValue ty) := by
  cases ty <;> simp only [a_dft] at h <;> first
    | (cases h; done)
    | (cases h; exact ⟨0, rfl, rfl⟩)
    | (cases h; rfl)
theorem g_dfs {b : Nat} {v : List Int} {Y : Nat → FieldType} : ∀ {n : Nat} {l : List a_V}, a_dfs Y n = some l → g_s b v l ((List.range n).map (fun k => defaultValue (Y k)))
  | 0, l, h => by
    cases h
    trivial
  | n + 1, l, h => by
    unfold a_dfs at h
    split at h
    · rename_i l1 x h1 h2
      cases h
      rw [List.range_succ, List.map_append]
      exact g_2_app (g_dfs h1) ⟨g_dft h2, trivial⟩
    · cases h
theorem g_cel {G : q_G} {b : Nat} {v : List Int} {B : a_B} {i : Instr} {sa sa1 : List a_V} {ma : List a_C} {x : a_C} {st : List Value} {m : q_M} (h : a_cel G B i sa ma = some (sa1, x)) (hB : g_B v B) (hs : g_s b v sa st) (hM : g_M b v ma m) : ∃ st1 y, q_new G i st m = some (st1, y) ∧ g_s b v sa1 st1 ∧ g_C b v x y := by
  have hlen := g_2_len hM
  unfold a_cel at h
  split at h
  · split at h
    rotate_left
    · cases h
    rename_i N hc
    split at h
    rotate_left
    · cases h
    rename_i l hl
    cases h
    exact ⟨.ref m.length :: st, _, by simp only [q_new, hc], ⟨by rw [hlen]; rfl, hs⟩, _, rfl, g_dfs hl⟩
  · split at h
    rotate_left
    · cases h
    split at h
    rotate_left
    · cases h
    rename_i a w0 r hc
    obtain ⟨c1, c2, c3, c4⟩ := hc
    cases h
    obtain ⟨y, ys, rfl, hy, hs1⟩ := g_ca hs
    replace hs := hs1
    obtain ⟨w, rfl, hy⟩ := hy
    have hi := g_iv hB (x := (false, _)) hy (g_o32 w)
    have n1 : ¬ w < 0 := by rw [Int32.lt_iff_toInt_lt, Int32.toInt_zero]; omega
    have e1 : w.toNatClampNeg = w.toInt.toNat := rfl
    have e2 : w.toNatClampNeg = (a_iv B (false, w0)).1.toNat := by omega
    refine ⟨.ref m.length :: ys, _, by simp only [q_new]; rw [if_pos ⟨n1, by omega, c4⟩], ⟨by rw [hlen]; rfl, hs⟩, ?_⟩
    rw [e2]
    split
    · exact ⟨_, rfl⟩
    · split
      · refine ⟨_, rfl, by simp, fun j x hx => ?_⟩
        have := List.mem_of_getElem? hx
        rw [List.mem_replicate] at this
        rw [this.2]
        exact ⟨rfl, rfl⟩
      · exact ⟨_, rfl, fun j _ => ⟨by show (0 : Int) ≤ (0 : Int32).toInt; decide, by show (0 : Int32).toInt ≤ 0; decide⟩⟩
  · split at h
    rotate_left
    · cases h
    split at h
    rotate_left
    · cases h
    rename_i t w0 r hc
    obtain ⟨c1, c2, c3⟩ := hc
    cases h
    obtain ⟨y, ys, rfl, hy, hs1⟩ := g_ca hs
    replace hs := hs1
    obtain ⟨w, rfl, hy⟩ := hy
    have hi := g_iv hB (x := (false, _)) hy (g_o32 w)
    have n1 : ¬ w < 0 := by rw [Int32.lt_iff_toInt_lt, Int32.toInt_zero]; omega
    have e1 : w.toNatClampNeg = w.toInt.toNat := rfl
    have e2 : w.toNatClampNeg = (a_iv B (false, w0)).1.toNat := by omega
    refine ⟨.ref m.length :: ys, _, by simp only [q_new]; rw [if_pos ⟨n1, by omega⟩], ⟨by rw [hlen]; rfl, hs⟩, ?_⟩
    rw [e2]
    refine ⟨_, rfl, by simp, fun j r hr => ?_⟩
    have := List.mem_of_getElem? hr
    rw [List.mem_replicate] at this
    exact this.2.symm
  · cases h
theorem g_lk {b : Nat} {v : List Int} {i : Instr} {sa sa1 : List a_V} {st : List Value} (h : a_lk i sa = some sa1) (hs : g_s b v sa st) : ∃ st1, q_lk i st = some st1 ∧ g_s b v sa1 st1 := by
  unfold a_lk at h
  split at h
  · cases h
    exact ⟨_, rfl, ⟨_, rfl, rfl⟩, hs⟩
  · cases h
    exact ⟨_, rfl, ⟨_, rfl, rfl⟩, hs⟩
  · cases h
theorem g_rcv {G : q_G} {M : q_MI} {b : Nat} {v : List Int} {as : List a_V} {ma : List a_C} {vs : List Value} {m : q_M} (h : a_rcv G M as ma = true) (hs : g_s b v as vs) (hM : g_M b v ma m) : q_rcv G M vs m = true := by
  unfold a_rcv at h
  unfold q_rcv
  split at h
  · rename_i hkk
    simp only [hkk]
  · rename_i hkk
    simp only [hkk]
    split at h
    rotate_left
    · cases h
    split at h
    rotate_left
    · cases h
    rename_i a r _ ci fs hm
    obtain ⟨y, ys, rfl, hy, hs1⟩ := g_ca hs
    replace hs := hs1
    have hy : y = .ref a := hy
    subst hy
    obtain ⟨c, hc1, hc2⟩ := g_2_get hM hm
    obtain ⟨f, rfl, -⟩ := hc2
    simp only [hc1]
    exact h
  · rename_i hk1 hk0
    split at h
    rotate_left
    · cases h
    rename_i a r
    obtain ⟨y, ys, rfl, hy, hs1⟩ := g_ca hs
    replace hs := hs1
    have hy : y = .ref _ := hy
    subst hy
    split
    · rfl
    · exact absurd (by assumption) hk0
    · rfl
theorem g_call {G : q_G} {M M1 : q_MI} {k : Nat} {b : Nat} {v : List Int} {sa as rest : List a_V} {ma : List a_C} {st : List Value} {m : q_M} (h : a_call G M k sa ma = some (M1, as, rest)) (hs : g_s b v sa st) (hM : g_M b v ma m) : ∃ vs rs, q_call G M k st m = some (M1, vs, rs) ∧ g_s b v as vs ∧ g_s b v rest rs ∧ (q_gM G)[k]? = some M1 := by
  unfold a_call at h
  split at h
  · cases h
  rename_i M2 hM2
  split at h
  rotate_left
  · cases h
  rename_i hc
  cases h
  obtain ⟨c1, c2, c3, c4, c5, c6⟩ := hc
  have ht := g_2_take (q_na M1) hs
  have hd := g_2_drop (q_na M1) hs
  refine ⟨_, _, ?_, g_2_rev ht, hd, hM2⟩
  unfold q_call
  rw [hM2]
  simp only
  rw [if_pos ⟨by rw [← g_2_len hs]; exact c1, by rw [← g_ac hd]; exact c2, c3, c4, by rw [← g_ac ht]; exact c5, g_rcv c6 (g_2_rev ht) hM⟩]
theorem g_lvs {b : Nat} {v : List Int} : ∀ {as : List a_V} {vs : List Value} (i : Nat), g_s b v as vs → g_L b v (a_lvs i as) (lv_args i vs)
  | [], [], _, _ => trivial
  | x :: as, y :: vs, i, h => by
    refine ⟨⟨rfl, h.1⟩, ?_⟩
    rw [g_cat h.1]
    exact g_lvs _ h.2
  | [], _ :: _, _, h => h.elim
  | _ :: _, [], _, h => h.elim
theorem g_ret {b : Nat} {v : List Int} {B : a_B} {M : q_MI} {i : Instr} {sa ra : List a_V} {st : List Value} (h : a_ret B M i sa = some ra) (hB : g_B v B) (hs : g_s b v sa st) : ∃ r, q_retn M i st = some r ∧ g_s b v ra r.toList := by
  unfold a_ret at h
  split at h
  · split at h
    rotate_left
    · cases h
    obtain ⟨y, ys, rfl, hy, hs1⟩ := g_ca hs
    replace hs := hs1
    have := g_na hs
    subst this
    have hy0 := hy
    obtain ⟨w, rfl, hy⟩ := hy
    split at h
    · rename_i hr
      cases h
      exact ⟨some (.int w), by simp only [q_retn, hr]; exact if_pos (show narrow .int (.int w) = .int w from rfl), hy0, trivial⟩
    · rename_i hr
      split at h
      rotate_left
      · cases h
      rename_i hc
      cases h
      have hi := g_iv hB (x := (false, _)) hy (g_o32 w)
      have hw : w = 0 ∨ w = 1 := by
        have : w.toInt = 0 ∨ w.toInt = 1 := by omega
        rcases this with h0 | h0
        · exact Or.inl (Int32.toInt_inj.mp (h0.trans (by decide)))
        · exact Or.inr (Int32.toInt_inj.mp (h0.trans (by decide)))
      refine ⟨some (.int w), ?_, hy0, trivial⟩
      simp only [q_retn, hr]
      rw [if_pos (by rcases hw with rfl | rfl <;> rfl)]
    · cases h
  · split at h
    rotate_left
    · cases h
    split at h
    rotate_left
    · cases h
    rename_i hr
    cases h
    obtain ⟨y, ys, rfl, hy, hs1⟩ := g_ca hs
    replace hs := hs1
    have := g_na hs
    subst this
    have hy0 := hy
    obtain ⟨w, rfl, hy⟩ := hy
    exact ⟨some (.long w), by simp only [q_retn]; rw [if_pos hr], hy0, trivial⟩
  · split at h
    rotate_left
    · cases h
    split at h
    rotate_left
    · cases h
    rename_i hr
    cases h
    have := g_na hs
    subst this
    exact ⟨none, by simp only [q_retn]; rw [if_pos hr], trivial⟩
  · cases h
end
section
theorem q_fuel {G : q_G} : ∀ (n k : Nat) (M : q_MI) (pc : Nat) (l : q_L) (st : List Value) (m : q_M) (r : Option Value × q_M), n ≤ k → q_run G n M pc l st m = some r → q_run G k M pc l st m = some r
  | 0, _, _, _, _, _, _, _, _, h => by simp [q_run] at h
  | n + 1, 0, _, _, _, _, _, _, hk, _ => by omega
  | n + 1, k + 1, M, pc, l, st, m, r, hk, h => by
    have hk : n ≤ k := by omega
    unfold q_run at h ⊢
    split at h
    · cases h
    rename_i I pc0 raw len i pos hf
    try simp only [hf]
    split at h
    · rename_i hg
      try simp only [hg]
      split at h
      rotate_left
      · cases h
      rename_i hp
      try simp only [hp]
      exact q_fuel n k _ _ _ _ _ _ hk h
    · rename_i hg
      try simp only [hg]
      split at h
      rotate_left
      · cases h
      rename_i hp
      try simp only [hp]
      exact q_fuel n k _ _ _ _ _ _ hk h
    · rename_i hg
      try simp only [hg]
      split at h
      rotate_left
      · cases h
      rename_i hp
      try simp only [hp]
      exact q_fuel n k _ _ _ _ _ _ hk h
    · rename_i hg
      try simp only [hg]
      split at h
      · rename_i j hj
        try simp only [hj]
        split at h
        rotate_left
        · cases h
        rename_i hc
        try simp only [hc]
        split at h
        rotate_left
        · cases h
        rename_i hr
        rw [q_fuel n k _ _ _ _ _ _ hk hr]
        exact q_fuel n k _ _ _ _ _ _ hk h
      · rename_i hj
        try simp only [hj]
        exact h
    · rename_i hg0 hg1 hg2 hg3
      split at h
      rotate_left
      · cases h
      rename_i hp
      try simp only [hp]
      exact q_fuel n k _ _ _ _ _ _ hk h
theorem q_lfuel {G : q_G} {b L : Nat} {xs : Nat → Int32} {M : q_MI} : ∀ (n k : Nat) (pc : Nat) (l : q_L) (st : List Value) (m : q_M) (r : Int32 × q_M), n ≤ k → q_lrun G b L xs M n pc l st m = some r → q_lrun G b L xs M k pc l st m = some r
  | 0, _, _, _, _, _, _, _, h => by simp [q_lrun] at h
  | n + 1, 0, _, _, _, _, _, hk, _ => by omega
  | n + 1, k + 1, pc, l, st, m, r, hk, h => by
    have hk : n ≤ k := by omega
    unfold q_lrun at h ⊢
    split at h
    · cases h
    rename_i I pc0 raw len i pos hf
    try simp only [hf]
    split at h
    · rename_i hg
      try simp only [hg]
      split at h
      rotate_left
      · cases h
      rename_i hp
      try simp only [hp]
      exact q_lfuel n k _ _ _ _ _ hk h
    · rename_i hg
      try simp only [hg]
      split at h
      rotate_left
      · cases h
      rename_i hp
      try simp only [hp]
      exact q_lfuel n k _ _ _ _ _ hk h
    · rename_i hg
      try simp only [hg]
      split at h
      rotate_left
      · cases h
      rename_i hp
      try simp only [hp]
      exact q_lfuel n k _ _ _ _ _ hk h
    · rename_i hg
      try simp only [hg]
      split at h
      · rename_i j hj
        try simp only [hj]
        split at h
        rotate_left
        · cases h
        rename_i hc
        try simp only [hc]
        split at h
        rotate_left
        · cases h
        rename_i hr
        rw [q_fuel n k _ _ _ _ _ _ hk hr]
        exact q_lfuel n k _ _ _ _ _ hk h
      · rename_i hj
        try simp only [hj]
        exact h
    · rename_i hg0 hg1 hg2 hg3
      split at h
      rotate_left
      · cases h
      rename_i hp
      try simp only [hp]
      exact q_lfuel n k _ _ _ _ _ hk h
abbrev q_Fr : Type := q_MI × Nat × q_L × List Value
/-- frames (the law's the last): with r given back to the topmost, they come to the law's end as P says -/
def q_Kt (G : q_G) (b L : Nat) (xs : Nat → Int32) (ML : q_MI) (P : Int32 → q_M → Prop) : List q_Fr → Option Value → q_M → Prop
  | [], _, _ => False
  | f :: fs, r, m => match fs with
    | [] => ∃ (n : Nat) (v : Int32) (qF : q_M), q_lrun G b L xs ML n f.2.1 f.2.2.1 (r.toList ++ f.2.2.2) m = some (v, qF) ∧ P v qF
    | f2 :: fs2 => ∃ (n : Nat) (r1 : Option Value) (m1 : q_M), q_run G n f.1 f.2.1 f.2.2.1 (r.toList ++ f.2.2.2) m = some (r1, m1) ∧ q_Kt G b L xs ML P (f2 :: fs2) r1 m1
def q_srt : List q_I → Bool
  | [] => true
  | [_] => true
  | I :: J :: C => Nat.blt I.1 J.1 && q_srt (J :: C)
theorem q_srt_lt : ∀ (C : List q_I) (I : q_I), q_srt (I :: C) = true → ∀ J ∈ C, I.1 < J.1
  | [], I, _, J, hJ => by cases hJ
  | K :: C, I, h, J, hJ => by
    simp only [q_srt, Bool.and_eq_true] at h
    have h1 : I.1 < K.1 := Nat.blt_eq.mp h.1
    rcases List.mem_cons.mp hJ with rfl | hJ
    · exact h1
    · exact Nat.lt_trans h1 (q_srt_lt C K h.2 J hJ)
theorem q_fd_suf : ∀ {C : List q_I} {I : q_I} {tl : List q_I}, q_srt C = true → (I :: tl) <:+ C → q_fd C I.1 = some I
  | [], I, tl, _, h => by simp at h
  | J :: C, I, tl, hs, h => by
    unfold q_fd
    rcases List.suffix_cons_iff.mp h with e | h2
    · cases e
      rw [if_pos rfl]
    · have hm : I ∈ C := h2.subset List.mem_cons_self
      have hlt := q_srt_lt C J hs I hm
      rw [if_neg (by omega)]
      refine q_fd_suf ?_ h2
      cases C with
      | nil => cases hm
      | cons K C =>
        simp only [q_srt, Bool.and_eq_true] at hs
        exact hs.2
theorem a_jmp_suf (pc : Nat) : ∀ C : List q_I, a_jmp C pc <:+ C
  | [] => List.suffix_refl _
  | I :: C => by
    unfold a_jmp
    split
    · exact (a_jmp_suf pc C).trans (List.suffix_cons I C)
    · exact List.suffix_refl _
theorem a_at_ok {M : q_MI} {tl c : List q_I} {pc : Nat} (h : a_at M tl pc = some c) (ht : tl <:+ q_mC M) : ∃ J l, c = J :: l ∧ J.1 = pc ∧ c <:+ q_mC M := by
  have hj : ∀ {c : List q_I}, (match a_jmp (q_mC M) pc with | J :: l => if J.1 = pc then some (J :: l) else none | [] => none) = some c → ∃ J l, c = J :: l ∧ J.1 = pc ∧ c <:+ q_mC M := by
    intro c h
    have hs := a_jmp_suf pc (q_mC M)
    split at h
    · rename_i J l hJ
      split at h
      · rename_i hpc
        cases h
        rw [hJ] at hs
        exact ⟨J, l, rfl, hpc, hs⟩
      · cases h
    · cases h
  unfold a_at at h
  split at h
  · split at h
    · rename_i hpc
      cases h
      exact ⟨_, _, rfl, hpc, ht⟩
    · exact hj h
  · exact hj h
def g_F (b : Nat) (v : List Int) (f : a_F) (p : q_Fr) : Prop := f.1 = p.1 ∧ q_srt (q_mC f.1) = true ∧ (∃ J l, f.2.1 = J :: l ∧ J.1 = p.2.1 ∧ f.2.1 <:+ q_mC f.1) ∧ g_L b v f.2.2.1 p.2.2.1 ∧ g_s b v f.2.2.2 p.2.2.2
def g_S (L : Nat) (xs : Nat → Int32) (v : List Int) (S : List (a_N × a_N)) : Prop := ∀ q ∈ S, ∃ j : Int, g_lin v q.1.2.1 q.1.2.2 j ∧ 0 ≤ j ∧ j < L ∧ q.2.1 = false ∧ g_lin v q.2.2.1 q.2.2.2 (xs j.toNat).toInt
def g_K (ML : q_MI) (b L : Nat) (xs : Nat → Int32) (v : List Int) (K : a_K) (ps : List q_Fr) (m : q_M) : Prop := v.length = K.1 ∧ g_B v K.2.1 ∧ g_S L xs v K.2.2.1 ∧ g_2 (g_F b v) K.2.2.2.1 ps ∧ g_M b v K.2.2.2.2 m ∧ v[0]? = some (L : Int) ∧ L < 2147483648 ∧ (∀ f, ps.getLast? = some f → f.1 = ML)
theorem g_F_ext {b : Nat} {v t : List Int} {f : a_F} {p : q_Fr} (h : g_F b v f p) : g_F b (v ++ t) f p := ⟨h.1, h.2.1, h.2.2.1, g_L_ext h.2.2.2.1, g_s_ext h.2.2.2.2⟩
theorem g_S_ext {L : Nat} {xs : Nat → Int32} {v t : List Int} {S : List (a_N × a_N)} (h : g_S L xs v S) : g_S L xs (v ++ t) S := by
  intro q hq
  obtain ⟨j, h1, h2, h3, h4, h5⟩ := h q hq
  exact ⟨j, g_lin_ext h1, h2, h3, h4, g_lin_ext h5⟩
theorem g_0_ext {v t : List Int} {z : Int} (h : v[0]? = some z) : (v ++ t)[0]? = some z := by
  rw [List.getElem?_append_left (List.getElem?_eq_some_iff.mp h).1]
  exact h
theorem g_lin_uniq {v : List Int} {o : Option Nat} {c x y : Int} (h1 : g_lin v o c x) (h2 : g_lin v o c y) : x = y := by
  cases o with
  | none =>
    have h1 : x = c := h1
    have h2 : y = c := h2
    omega
  | some i =>
    obtain ⟨w, a1, a2⟩ := h1
    obtain ⟨u, b1, b2⟩ := h2
    rw [a1] at b1
    cases b1
    omega
theorem g_mmo {S : List (a_N × a_N)} {x y : a_N} (h : a_mmo S x = some y) : ∃ q ∈ S, q.1.2.1 = x.2.1 ∧ q.1.2.2 = x.2.2 ∧ q.2 = y := by
  induction S with
  | nil => cases h
  | cons q S ih =>
    unfold a_mmo at h
    split at h
    · rename_i he
      cases h
      simp only [a_eqn, decide_eq_true_eq] at he
      exact ⟨q, List.mem_cons_self, he.1, he.2, rfl⟩
    · obtain ⟨p, hp, h⟩ := ih h
      exact ⟨p, List.mem_cons_of_mem _ hp, h⟩
theorem g_scr {b L : Nat} {xs : Nat → Int32} {v : List Int} {k k1 : Nat} {B B1 : a_B} {S S1 : List (a_N × a_N)} {i : Instr} {sa sa1 : List a_V} {st : List Value} (h : a_scr k B S i sa = some (k1, B1, S1, sa1)) (hk : v.length = k) (hB : g_B v B) (hS : g_S L xs v S) (h0 : v[0]? = some (L : Int)) (hL : L < 2147483648) (hs : g_s b v sa st) :
    ∃ (t : List Int) (st1 : List Value), q_scr b L xs i st = some st1 ∧ (v ++ t).length = k1 ∧ g_B (v ++ t) B1 ∧ g_S L xs (v ++ t) S1 ∧ g_s b (v ++ t) sa1 st1 := by
  unfold a_scr at h
  split at h
  · split at h
    rotate_left
    · cases h
    rename_i x r
    obtain ⟨w, ws, rfl, hw, hs1⟩ := g_ca hs
    replace hs := hs1
    obtain ⟨y, ys, rfl, hy, hs1⟩ := g_ca hs
    replace hs := hs1
    have hy : y = .retAddr b := hy
    subst hy
    obtain ⟨j, rfl, hj⟩ := hw
    split at h
    · rename_i y0 hy0
      cases h
      obtain ⟨q, hq, e1, e2, rfl⟩ := g_mmo hy0
      obtain ⟨z, z1, z2, z3, z4, z5⟩ := hS q hq
      rw [e1, e2] at z1
      have hz := g_lin_uniq hj z1
      obtain ⟨hin, he, hlt, -⟩ := g_ix (j := j) (n := L) (by omega) (by omega)
      refine ⟨[], .int (xs j.toNatClampNeg) :: ys, by simp only [q_scr]; rw [if_pos ⟨trivial, hin⟩], by simpa using hk, by simpa using hB, by simpa using hS, ?_, by simpa using hs⟩
      have e3 : z.toNat = j.toNatClampNeg := by omega
      rw [e3] at z5
      obtain ⟨qa, qb⟩ := q
      obtain ⟨lg, oo, cc⟩ := qb
      simp only at z4 z5
      subst z4
      exact ⟨_, rfl, by simpa using z5⟩
    · split at h
      rotate_left
      · cases h
      rename_i hc
      cases h
      have hi := g_iv hB (x := (false, x)) hj (g_o32 j)
      have hl := g_iv hB (x := (true, some 0, 0)) (z := (L : Int)) ⟨L, h0, by show (L : Int) = L + 0; omega⟩ (Or.inr ⟨by show (-9223372036854775808 : Int) ≤ _; omega, by show _ ≤ (9223372036854775807 : Int); omega⟩)
      obtain ⟨hin, he, hlt, -⟩ := g_ix (j := j) (n := L) (by omega) (by omega)
      obtain ⟨t, t1, t2, t3, t4⟩ := g_top hk hB (lg := false) (g_in32 (xs j.toNatClampNeg))
      refine ⟨t, .int (xs j.toNatClampNeg) :: ys, by simp only [q_scr]; rw [if_pos ⟨trivial, hin⟩], t1, t2, ?_, ⟨_, rfl, t4⟩, g_s_ext hs⟩
      intro q hq
      rcases List.mem_cons.mp hq with rfl | hq
      · exact ⟨j.toInt, g_lin_ext hj, by omega, by omega, rfl, t4⟩
      · exact g_S_ext hS q hq
  · split at h
    rotate_left
    · cases h
    cases h
    obtain ⟨y, ys, rfl, hy, hs1⟩ := g_ca hs
    replace hs := hs1
    have hy : y = .retAddr b := hy
    subst hy
    exact ⟨[], .int (Int32.ofNat L) :: ys, by simp only [q_scr]; rw [if_pos trivial], by simpa using hk, by simpa using hB, by simpa using hS, ⟨_, rfl, by rw [g_len hL]; exact ⟨L, g_0_ext h0, by show (L : Int) = L + 0; omega⟩⟩, by simpa using hs⟩
  · cases h
end
section
section GFIN
variable {G : q_G} {b L : Nat} {xs : Nat → Int32} {ML : q_MI} {P : Int32 → q_M → Prop}
theorem q_Kt_step {M : q_MI} {pc pc1 : Nat} {l l1 : q_L} {st st1 : List Value} {m m1 : q_M} {fs : List q_Fr} (hr : fs ≠ [] → ∀ n, q_run G (n + 1) M pc l st m = q_run G n M pc1 l1 st1 m1) (hl : fs = [] → ∀ n, q_lrun G b L xs ML (n + 1) pc l st m = q_lrun G b L xs ML n pc1 l1 st1 m1)
    (h : q_Kt G b L xs ML P ((M, pc1, l1, st1) :: fs) none m1) : q_Kt G b L xs ML P ((M, pc, l, st) :: fs) none m := by
  cases fs with
  | nil =>
    obtain ⟨n, v, qF, h1, h2⟩ := h
    exact ⟨n + 1, v, qF, (hl rfl n).trans h1, h2⟩
  | cons f fs =>
    obtain ⟨n, r1, m2, h1, h2⟩ := h
    exact ⟨n + 1, r1, m2, (hr (by simp) n).trans h1, h2⟩
theorem q_Kt_call {M M1 : q_MI} {pc pc1 : Nat} {l lv : q_L} {st rest : List Value} {m : q_M} {fs : List q_Fr}
    (hr : fs ≠ [] → ∀ n r m1, q_run G n M1 0 lv [] m = some (r, m1) → q_run G (n + 1) M pc l st m = q_run G n M pc1 l (r.toList ++ rest) m1) (hl : fs = [] → ∀ n r m1, q_run G n M1 0 lv [] m = some (r, m1) → q_lrun G b L xs ML (n + 1) pc l st m = q_lrun G b L xs ML n pc1 l (r.toList ++ rest) m1)
    (h : q_Kt G b L xs ML P ((M1, 0, lv, []) :: (M, pc1, l, rest) :: fs) none m) : q_Kt G b L xs ML P ((M, pc, l, st) :: fs) none m := by
  obtain ⟨n, r, m1, h1, h2⟩ := h
  cases fs with
  | nil =>
    obtain ⟨n2, v, qF, h3, h4⟩ := h2
    have e1 := q_fuel n (n + n2) _ _ _ _ _ _ (by omega) h1
    have e2 := q_lfuel n2 (n + n2) _ _ _ _ _ (by omega) h3
    exact ⟨n + n2 + 1, v, qF, (hl rfl _ _ _ e1).trans e2, h4⟩
  | cons f fs =>
    obtain ⟨n2, r2, m2, h3, h4⟩ := h2
    have e1 := q_fuel n (n + n2) _ _ _ _ _ _ (by omega) h1
    have e2 := q_fuel n2 (n + n2) _ _ _ _ _ _ (by omega) h3
    exact ⟨n + n2 + 1, r2, m2, (hr (by simp) _ _ _ e1).trans e2, h4⟩
theorem q_Kt_ret {M M2 : q_MI} {pc pc2 : Nat} {l l2 : q_L} {st st2 : List Value} {m : q_M} {r : Option Value} {fs : List q_Fr} (hr : q_run G 1 M pc l st m = some (r, m)) (h : q_Kt G b L xs ML P ((M2, pc2, l2, r.toList ++ st2) :: fs) none m) : q_Kt G b L xs ML P ((M, pc, l, st) :: (M2, pc2, l2, st2) :: fs) none m := by
  refine ⟨1, r, m, hr, ?_⟩
  cases fs with
  | nil => exact h
  | cons f fs => exact h
theorem g_nxt {M : q_MI} {tl : List q_I} {fs : List a_F} {S : List (a_N × a_N)} {m : List a_C} : ∀ {ps : List a_P} {Ks : List a_K}, a_nxt M tl fs S m ps = some Ks → ∀ p ∈ ps, ∃ c, a_at M tl p.2.2.1 = some c ∧ ((p.1, p.2.1, S, (M, c, p.2.2.2.1, p.2.2.2.2) :: fs, m) : a_K) ∈ Ks
  | [], Ks, h, p, hp => by cases hp
  | q :: ps, Ks, h, p, hp => by
    unfold a_nxt at h
    split at h
    · rename_i c l h1 h2
      cases h
      rcases List.mem_cons.mp hp with rfl | hp
      · exact ⟨c, h1, List.mem_cons_self⟩
      · obtain ⟨c2, e1, e2⟩ := g_nxt h2 p hp
        exact ⟨c2, e1, List.mem_cons_of_mem _ e2⟩
    · cases h
theorem g_last {α : Type} {P : α → Prop} {f g : α} {fs : List α} (h : ∀ z, (f :: fs).getLast? = some z → P z) (hg : fs = [] → P f → P g) : ∀ z, (g :: fs).getLast? = some z → P z := by
  intro z hz
  cases fs with
  | nil =>
    simp at hz
    subst hz
    exact hg rfl (h f (by simp))
  | cons a fs =>
    refine h z ?_
    rw [List.getLast?_cons_cons] at hz ⊢
    exact hz
theorem g_step {mx ml : Nat} (hsG : ∀ M ∈ q_gM G, q_srt (q_mC M) = true) {K : a_K} {Ks : List a_K} (h : a_step G mx ml K = some Ks) {v : List Int} {ps : List q_Fr} {m : q_M} (hK : g_K ML b L xs v K ps m) :
    q_Kt G b L xs ML (fun z qF => z = 1 ∧ qF.length ≤ mx ∧ q_sl qF ≤ ml) ps none m ∨ ∃ K1 ∈ Ks, ∃ (v1 : List Int) (ps1 : List q_Fr) (m1 : q_M), g_K ML b L xs v1 K1 ps1 m1 ∧ (q_Kt G b L xs ML (fun z qF => z = 1 ∧ qF.length ≤ mx ∧ q_sl qF ≤ ml) ps1 none m1 → q_Kt G b L xs ML (fun z qF => z = 1 ∧ qF.length ≤ mx ∧ q_sl qF ≤ ml) ps none m) := by
  obtain ⟨k, B, S, fs0, ma⟩ := K
  obtain ⟨hk, hB, hS, hF, hM, h0, hL, hlast⟩ := hK
  simp only at hk hB hS hF hM
  unfold a_step at h
  split at h
  · cases h
  · cases h
  rename_i k' B' S' M pc raw len i pos tl la sa fs ma' heq
  cases heq
  obtain ⟨p0, pfs, rfl, hf, hfs⟩ := g_ca hF
  obtain ⟨M0, pc0, l, st⟩ := p0
  obtain ⟨e1, hsrt, ⟨J, jl, e2, e3, hsuf⟩, hl, hs⟩ := hf
  simp only at e1 e2 e3 hsrt hsuf hl hs
  subst e1
  cases e2
  simp only at e3
  subst e3
  have hfd := q_fd_suf hsrt hsuf
  simp only at hfd
  have htl : tl <:+ q_mC M := (List.suffix_cons _ tl).trans hsuf
  have hlen : fs.length = pfs.length := g_2_len hfs
  have hnil : pfs = [] → fs = [] := fun q => by rw [q] at hlen; exact List.eq_nil_of_length_eq_zero hlen
  have hnil2 : fs = [] → pfs = [] := fun q => by rw [q] at hlen; exact List.eq_nil_of_length_eq_zero hlen.symm
  have hML : pfs = [] → M = ML := fun q => by
    subst q
    exact hlast (M, pc, l, st) (by simp)
  have hfdL : pfs = [] → q_fd (q_mC ML) pc = some (pc, raw, len, i, pos) := fun q => by rw [← hML q]; exact hfd
  split at h
  · -- pure
    rename_i hg
    split at h
    rotate_left
    · cases h
    rename_i ps1 hp
    obtain ⟨p, hpm, t, l1, st1, r1, r2, r3, r4, r5⟩ := g_pure hp hk hB hl hs
    obtain ⟨c, c1, c2⟩ := g_nxt h p hpm
    obtain ⟨J1, jl1, d1, d2, d3⟩ := a_at_ok c1 htl
    refine Or.inr ⟨_, c2, v ++ t, (M, p.2.2.1, l1, st1) :: pfs, m, ⟨r2, r3, g_S_ext hS, ⟨⟨rfl, hsrt, ⟨J1, jl1, d1, d2, d3⟩, r4, r5⟩, g_2_mono (fun _ _ => g_F_ext) hfs⟩, g_M_ext hM, g_0_ext h0, hL, g_last hlast (fun _ q => q)⟩, q_Kt_step (fun _ n => ?_) (fun q n => ?_)⟩
    · conv => lhs; unfold q_run
      simp only [hfd, hg, r1]
    · have e := hML q
      subst e
      conv => lhs; unfold q_lrun
      simp only [hfd, hg, r1]
  · -- memory, or the script
    rename_i hg
    split at h
    rotate_left
    · cases h
    rename_i c c1
    obtain ⟨J1, jl1, d1, d2, d3⟩ := a_at_ok c1 htl
    split at h
    · -- the law
      have hp0 := hnil2 rfl
      subst hp0
      split at h
      rotate_left
      · cases h
      rename_i k1 B1 S1 st1a hp
      cases h
      obtain ⟨t, st1, r1, r2, r3, r4, r5⟩ := g_scr hp hk hB hS h0 hL hs
      refine Or.inr ⟨_, List.mem_singleton.mpr rfl, v ++ t, [(M, pc + len, l, st1)], m, ⟨r2, r3, r4, ⟨⟨rfl, hsrt, ⟨J1, jl1, d1, d2, d3⟩, g_L_ext hl, r5⟩, trivial⟩, g_M_ext hM, g_0_ext h0, hL, g_last hlast (fun _ q => q)⟩, q_Kt_step (fun q => absurd rfl q) (fun q n => ?_)⟩
      have e := hML q
      subst e
      conv => lhs; unfold q_lrun
      simp only [hfd, hg, r1]
    · rename_i f1 fs1
      split at h
      rotate_left
      · cases h
      rename_i ps1 hp
      cases h
      obtain ⟨p, hpm, t, st1, m1, r1, r2, r3, r4, r5⟩ := g_mem hp hk hB hs hM
      refine Or.inr ⟨_, List.mem_map.mpr ⟨p, hpm, rfl⟩, v ++ t, (M, pc + len, l, st1) :: pfs, m1, ⟨r2, r3, g_S_ext hS, ⟨⟨rfl, hsrt, ⟨J1, jl1, d1, d2, d3⟩, g_L_ext hl, r4⟩, g_2_mono (fun _ _ => g_F_ext) hfs⟩, r5, g_0_ext h0, hL, g_last hlast (fun _ q => q)⟩, q_Kt_step (fun _ n => ?_) (fun q n => ?_)⟩
      · conv => lhs; unfold q_run
        simp only [hfd, hg, r1]
      · exact absurd (hnil q) (by simp)
  · -- a new cell
    rename_i hg
    split at h
    rotate_left
    · cases h
    rename_i c st1a x c1 hp
    cases h
    obtain ⟨J1, jl1, d1, d2, d3⟩ := a_at_ok c1 htl
    obtain ⟨st1, y, r1, r2, r3⟩ := g_cel hp hB hs hM
    refine Or.inr ⟨_, List.mem_singleton.mpr rfl, v, (M, pc + len, l, st1) :: pfs, m ++ [y], ⟨hk, hB, hS, ⟨⟨rfl, hsrt, ⟨J1, jl1, d1, d2, d3⟩, hl, r2⟩, hfs⟩, g_2_app hM ⟨r3, trivial⟩, h0, hL, g_last hlast (fun _ q => q)⟩, q_Kt_step (fun _ n => ?_) (fun q n => ?_)⟩
    · conv => lhs; unfold q_run
      simp only [hfd, hg, r1]
    · have e := hML q
      subst e
      conv => lhs; unfold q_lrun
      simp only [hfd, hg, r1]
  · -- call or return
    rename_i hg
    split at h
    · rename_i j hj
      split at h
      rotate_left
      · cases h
      rename_i c M1 as rest c1 hp
      split at h
      rotate_left
      · cases h
      rename_i c2 hc2
      cases h
      obtain ⟨J1, jl1, d1, d2, d3⟩ := a_at_ok c1 htl
      obtain ⟨J2, jl2, d4, d5, d6⟩ := a_at_ok hc2 (List.suffix_refl _)
      obtain ⟨vs, rs, r1, r2, r3, r4⟩ := g_call hp hs hM
      refine Or.inr ⟨_, List.mem_singleton.mpr rfl, v, (M1, 0, lv_args 0 vs, []) :: (M, pc + len, l, rs) :: pfs, m, ⟨hk, hB, hS, ⟨⟨rfl, hsG M1 (List.mem_of_getElem? r4), ⟨J2, jl2, d4, d5, d6⟩, g_lvs 0 r2, trivial⟩, ⟨rfl, hsrt, ⟨J1, jl1, d1, d2, d3⟩, hl, r3⟩, hfs⟩, hM, h0, hL, fun z hz => ?_⟩, q_Kt_call (fun _ n r m1 hr => ?_) (fun q n r m1 hr => ?_)⟩
      · rw [List.getLast?_cons_cons] at hz
        exact g_last (P := fun f : q_Fr => f.1 = ML) (g := (M, pc + len, l, rs)) hlast (fun _ q => q) z hz
      · conv => lhs; unfold q_run
        simp only [hfd, hg, hj, r1, hr]
      · have e := hML q
        subst e
        conv => lhs; unfold q_lrun
        simp only [hfd, hg, hj, r1, hr]
    · rename_i hj
      split at h
      · have hp0 := hnil2 rfl
        subst hp0
        split at h
        rotate_left
        · cases h
        rename_i x
        split at h
        rotate_left
        · cases h
        rename_i hc
        obtain ⟨y, ys, rfl, hy, hs1⟩ := g_ca hs
        replace hs := hs1
        have := g_na hs
        subst this
        obtain ⟨w, rfl, hy⟩ := hy
        have hi := g_iv hB (x := (false, x)) hy (g_o32 w)
        have hw : w = 1 := Int32.toInt_inj.mp (by rw [show (1 : Int32).toInt = 1 by decide]; omega)
        left
        refine ⟨1, w, m, ?_, hw, by rw [← g_2_len hM]; exact hc.2.2.1, by rw [← g_sl hM]; exact hc.2.2.2⟩
        have e := hML rfl
        subst e
        show q_lrun G b L xs M 1 pc l [.int w] m = _
        unfold q_lrun
        simp only [hfd, hg, hj]
      · rename_i M2 c2 l2 st2 fs2
        split at h
        rotate_left
        · cases h
        rename_i ra hr
        cases h
        obtain ⟨q0, qs, rfl, hf2, hfs2⟩ := g_ca hfs
        obtain ⟨M3, pc3, l3, st3⟩ := q0
        obtain ⟨e1, hsrt2, hcd2, hl2, hs2⟩ := hf2
        simp only at e1 hsrt2 hcd2 hl2 hs2
        subst e1
        obtain ⟨r, r1, r2⟩ := g_ret hr hB hs
        refine Or.inr ⟨_, List.mem_singleton.mpr rfl, v, (M2, pc3, l3, r.toList ++ st3) :: qs, m, ⟨hk, hB, hS, ⟨⟨rfl, hsrt2, hcd2, hl2, g_2_app r2 hs2⟩, hfs2⟩, hM, h0, hL, fun z hz => ?_⟩, q_Kt_ret ?_⟩
        · refine g_last (P := fun f : q_Fr => f.1 = ML) (f := (M2, pc3, l3, st3)) (g := (M2, pc3, l3, r.toList ++ st3)) (fun z hz => hlast z (by rw [List.getLast?_cons_cons]; exact hz)) (fun _ q => q) z hz
        · unfold q_run
          simp only [hfd, hg, hj, r1]
  · -- a constant
    rename_i hg0 hg1 hg2 hg3
    split at h
    rotate_left
    · cases h
    rename_i c st1a c1 hp
    cases h
    obtain ⟨J1, jl1, d1, d2, d3⟩ := a_at_ok c1 htl
    obtain ⟨st1, r1, r2⟩ := g_lk hp hs
    refine Or.inr ⟨_, List.mem_singleton.mpr rfl, v, (M, pc + len, l, st1) :: pfs, m, ⟨hk, hB, hS, ⟨⟨rfl, hsrt, ⟨J1, jl1, d1, d2, d3⟩, hl, r2⟩, hfs⟩, hM, h0, hL, g_last hlast (fun _ q => q)⟩, q_Kt_step (fun _ n => ?_) (fun q n => ?_)⟩
    · conv => lhs; unfold q_run
      simp only [hfd, r1]
    · have e := hML q
      subst e
      conv => lhs; unfold q_lrun
      simp only [hfd, r1]
theorem g_run {mx ml : Nat} (hsG : ∀ M ∈ q_gM G, q_srt (q_mC M) = true) : ∀ (n : Nat) (K : a_K), a_run G mx ml n K = true → ∀ (v : List Int) (ps : List q_Fr) (m : q_M), g_K ML b L xs v K ps m → q_Kt G b L xs ML (fun z qF => z = 1 ∧ qF.length ≤ mx ∧ q_sl qF ≤ ml) ps none m
  | 0, K, h, _, _, _, _ => by cases h
  | n + 1, K, h, v, ps, m, hK => by
    have h : (match a_step G mx ml K with | none => false | some [] => true | some [K1] => a_run G mx ml n K1 | some Ks => Ks.all (a_run G mx ml n)) = true := h
    obtain ⟨Ks, hs, h⟩ : ∃ Ks, a_step G mx ml K = some Ks ∧ Ks.all (a_run G mx ml n) = true := by
      split at h
      · cases h
      · rename_i hs
        exact ⟨_, hs, rfl⟩
      · rename_i hs
        exact ⟨_, hs, by simpa using h⟩
      · rename_i hs
        exact ⟨_, hs, h⟩
    rcases g_step hsG hs hK with h1 | ⟨K1, hm, v1, ps1, m1, hK1, hgo⟩
    · exact h1
    · exact hgo (g_run hsG n K1 (List.all_eq_true.mp h K1 hm) v1 ps1 m1 hK1)
end GFIN
end
section
/-! a front of states, all gone on by so many steps -/
def a_one (G : q_G) (mx ml : Nat) : List a_K → Option (List a_K)
  | [] => some []
  | K :: Ks => match a_step G mx ml K, a_one G mx ml Ks with
    | some l, some r => some (l ++ r)
    | _, _ => none
noncomputable def a_fr (G : q_G) (mx ml : Nat) (n : Nat) : List a_K → Option (List a_K) := Nat.rec (motive := fun _ => List a_K → Option (List a_K)) (fun Ks => some Ks) (fun _ ih Ks => match a_one G mx ml Ks with
  | some Ks1 => ih Ks1
  | none => none) n
section GFR
variable {G : q_G} {b L : Nat} {xs : Nat → Int32} {ML : q_MI} {mx ml : Nat}
def g_Good (G : q_G) (ML : q_MI) (b L : Nat) (xs : Nat → Int32) (mx ml : Nat) (K : a_K) : Prop := ∀ (v : List Int) (ps : List q_Fr) (m : q_M), g_K ML b L xs v K ps m → q_Kt G b L xs ML (fun z qF => z = 1 ∧ qF.length ≤ mx ∧ q_sl qF ≤ ml) ps none m
theorem g_one (hsG : ∀ M ∈ q_gM G, q_srt (q_mC M) = true) : ∀ {Ks Ks1 : List a_K}, a_one G mx ml Ks = some Ks1 → (∀ K ∈ Ks1, g_Good G ML b L xs mx ml K) → ∀ K ∈ Ks, g_Good G ML b L xs mx ml K
  | [], _, _, _, K, hK => by cases hK
  | K0 :: Ks, Ks1, h, hg, K, hK => by
    unfold a_one at h
    split at h
    rotate_left
    · cases h
    rename_i l r h1 h2
    cases h
    rcases List.mem_cons.mp hK with rfl | hK
    · intro v ps m hk
      rcases g_step hsG h1 hk with h3 | ⟨K1, hm, v1, ps1, m1, hK1, hgo⟩
      · exact h3
      · exact hgo (hg K1 (List.mem_append_left _ hm) v1 ps1 m1 hK1)
    · exact g_one hsG h2 (fun z hz => hg z (List.mem_append_right _ hz)) K hK
theorem g_fr (hsG : ∀ M ∈ q_gM G, q_srt (q_mC M) = true) : ∀ (n : Nat) {Ks Ks1 : List a_K}, a_fr G mx ml n Ks = some Ks1 → (∀ K ∈ Ks1, g_Good G ML b L xs mx ml K) → ∀ K ∈ Ks, g_Good G ML b L xs mx ml K
  | 0, Ks, Ks1, h, hg => by
    cases h
    exact hg
  | n + 1, Ks, Ks1, h, hg => by
    have h : (match a_one G mx ml Ks with | some Ks2 => a_fr G mx ml n Ks2 | none => none) = some Ks1 := h
    split at h
    rotate_left
    · cases h
    rename_i Ks2 h1
    exact g_one hsG h1 (g_fr hsG n h hg)
theorem g_fr' (hsG : ∀ M ∈ q_gM G, q_srt (q_mC M) = true) {n k : Nat} {Ks F : List a_K} (hF : a_fr G mx ml n Ks = some F) (hlen : F.length ≤ k) (hg : ∀ j, j < k → ∀ K, F[j]? = some K → g_Good G ML b L xs mx ml K) : ∀ K ∈ Ks, g_Good G ML b L xs mx ml K := by
  refine g_fr hsG n hF (fun K hK => ?_)
  obtain ⟨j, hj⟩ := List.getElem?_of_mem hK
  exact hg j (Nat.lt_of_lt_of_le (List.getElem?_eq_some_iff.mp hj).1 hlen) K hj
end GFR
end
section
/-! THE CHECKER OF CERTIFICATES: linear terms over variables, bounds, known terms that are at least 0 -/
abbrev b_T : Type := List (Nat × Int) × Int
abbrev b_N : Type := Bool × b_T
abbrev b_V : Type := b_N ⊕ (Nat ⊕ Nat)
abbrev b_L : Type := List (Nat × b_V)
/-- a variable's part put into a sum -/
def b_ins (i : Nat) (k : Int) (l : List (Nat × Int)) : List (Nat × Int) := match l with
  | [] => [(i, k)]
  | q :: l => match Nat.beq q.1 i with
    | true => if q.2 + k = 0 then l else (i, q.2 + k) :: l
    | false => match Nat.blt i q.1 with
      | true => (i, k) :: q :: l
      | false => q :: b_ins i k l
/-- a + k * b -/
def b_adl (a : List (Nat × Int)) (k : Int) (b : List (Nat × Int)) : List (Nat × Int) := match b with
  | [] => a
  | q :: b => b_ins q.1 (k * q.2) (b_adl a k b)
def b_ad (a : b_T) (k : Int) (b : b_T) : b_T := (b_adl a.1 k b.1, a.2 + k * b.2)
def b_c (c : Int) : b_T := ([], c)
def b_scl (k : Int) (l : List (Nat × Int)) : List (Nat × Int) := match l with
  | [] => []
  | q :: l => (q.1, k * q.2) :: b_scl k l
def b_sc (k : Int) (a : b_T) : b_T := if k = 0 then ([], 0) else (b_scl k a.1, k * a.2)
/-- its value, where all its variables have one -/
def b_vs (v : List Int) (l : List (Nat × Int)) : Option Int := match l with
  | [] => some 0
  | q :: l => match v[q.1]?, b_vs v l with
    | some w, some s => some (q.2 * w + s)
    | _, _ => none
def b_is (v : List Int) (t : b_T) (z : Int) : Prop := ∃ s, b_vs v t.1 = some s ∧ z = s + t.2
theorem b_vs_cons {v : List Int} {q : Nat × Int} {l : List (Nat × Int)} {s : Int} : b_vs v (q :: l) = some s ↔ ∃ w r, v[q.1]? = some w ∧ b_vs v l = some r ∧ s = q.2 * w + r := by
  have e : b_vs v (q :: l) = (match v[q.1]?, b_vs v l with | some w, some s => some (q.2 * w + s) | _, _ => none) := rfl
  rw [e]
  constructor
  · intro h
    split at h
    · rename_i w r h1 h2
      cases h
      exact ⟨w, r, h1, h2, rfl⟩
    · cases h
  · rintro ⟨w, r, h1, h2, rfl⟩
    rw [h1, h2]
theorem b_vs_ins {v : List Int} {i : Nat} {k w : Int} (hw : v[i]? = some w) : ∀ {l : List (Nat × Int)} {s : Int}, b_vs v l = some s → b_vs v (b_ins i k l) = some (k * w + s)
  | [], s, h => by
    cases h
    exact b_vs_cons.mpr ⟨w, 0, hw, rfl, rfl⟩
  | q :: l, s, h => by
    obtain ⟨u, r, h1, h2, rfl⟩ := b_vs_cons.mp h
    unfold b_ins
    split
    · rename_i hb
      have hb := Nat.eq_of_beq_eq_true hb
      rw [hb, hw] at h1
      cases h1
      split
      · rename_i h0
        rw [h2]
        congr 1
        have : (q.2 + k) * w = 0 := by rw [h0, Int.zero_mul]
        rw [Int.add_mul] at this
        omega
      · refine b_vs_cons.mpr ⟨w, r, hw, h2, ?_⟩
        show _ = (q.2 + k) * w + r
        rw [Int.add_mul]
        omega
    · split
      · exact b_vs_cons.mpr ⟨w, _, hw, h, rfl⟩
      · refine b_vs_cons.mpr ⟨u, _, h1, b_vs_ins hw h2, ?_⟩
        omega
theorem b_vs_adl {v : List Int} {a : List (Nat × Int)} {k s : Int} (ha : b_vs v a = some s) : ∀ {b : List (Nat × Int)} {r : Int}, b_vs v b = some r → b_vs v (b_adl a k b) = some (s + k * r)
  | [], r, h => by
    cases h
    rw [b_adl, ha]
    simp
  | q :: b, r, h => by
    obtain ⟨w, r1, h1, h2, rfl⟩ := b_vs_cons.mp h
    rw [b_adl, b_vs_ins h1 (b_vs_adl ha h2)]
    congr 1
    rw [Int.mul_add, Int.mul_assoc]
    omega
theorem b_is_ad {v : List Int} {a b : b_T} {k x y : Int} (ha : b_is v a x) (hb : b_is v b y) : b_is v (b_ad a k b) (x + k * y) := by
  obtain ⟨s, h1, rfl⟩ := ha
  obtain ⟨r, h2, rfl⟩ := hb
  refine ⟨_, b_vs_adl h1 h2, ?_⟩
  show _ = s + k * r + (a.2 + k * b.2)
  rw [Int.mul_add]
  omega
theorem b_is_c {v : List Int} (c : Int) : b_is v (b_c c) c := ⟨0, rfl, by simp [b_c]⟩
theorem b_vs_scl {v : List Int} {k : Int} : ∀ {l : List (Nat × Int)} {s : Int}, b_vs v l = some s → b_vs v (b_scl k l) = some (k * s)
  | [], s, h => by
    cases h
    rw [b_scl, Int.mul_zero]
    rfl
  | q :: l, s, h => by
    obtain ⟨w, r, h1, h2, rfl⟩ := b_vs_cons.mp h
    rw [b_scl]
    refine b_vs_cons.mpr ⟨w, _, h1, b_vs_scl h2, ?_⟩
    show _ = k * q.2 * w + k * r
    rw [Int.mul_add, Int.mul_assoc]
theorem b_is_sc {v : List Int} {k : Int} {a : b_T} {x : Int} (ha : b_is v a x) : b_is v (b_sc k a) (k * x) := by
  obtain ⟨s, h1, rfl⟩ := ha
  unfold b_sc
  split
  · rename_i h0
    subst h0
    exact ⟨0, rfl, by simp⟩
  · refine ⟨_, b_vs_scl h1, ?_⟩
    show _ = k * s + k * a.2
    rw [Int.mul_add]
theorem b_is_uniq {v : List Int} {t : b_T} {x y : Int} (h1 : b_is v t x) (h2 : b_is v t y) : x = y := by
  obtain ⟨s, e1, rfl⟩ := h1
  obtain ⟨r, e2, rfl⟩ := h2
  rw [e1] at e2
  cases e2
  rfl
theorem b_vs_ext {v t : List Int} : ∀ {l : List (Nat × Int)} {s : Int}, b_vs v l = some s → b_vs (v ++ t) l = some s
  | [], s, h => h
  | q :: l, s, h => by
    obtain ⟨w, r, h1, h2, rfl⟩ := b_vs_cons.mp h
    exact b_vs_cons.mpr ⟨w, r, by rw [List.getElem?_append_left (List.getElem?_eq_some_iff.mp h1).1]; exact h1, b_vs_ext h2, rfl⟩
theorem b_is_ext {v t : List Int} {a : b_T} {x : Int} (h : b_is v a x) : b_is (v ++ t) a x := by
  obtain ⟨s, h1, h2⟩ := h
  exact ⟨s, b_vs_ext h1, h2⟩
theorem b_is_var {v : List Int} {i : Nat} {w : Int} (h : v[i]? = some w) : b_is v ([(i, 1)], 0) w := ⟨1 * w + 0, b_vs_cons.mpr ⟨w, 0, h, rfl, rfl⟩, by show w = 1 * w + 0 + 0; omega⟩
/-- bounds of a sum -/
def b_ivl (B : a_B) (l : List (Nat × Int)) : Option (Int × Int) := match l with
  | [] => some (0, 0)
  | q :: l => match a_bd B q.1, b_ivl B l with
    | some r, some s => if 0 ≤ q.2 then some (q.2 * r.1 + s.1, q.2 * r.2 + s.2) else some (q.2 * r.2 + s.1, q.2 * r.1 + s.2)
    | _, _ => none
def b_iv (B : a_B) (t : b_T) : Option (Int × Int) := match b_ivl B t.1 with
  | some s => some (s.1 + t.2, s.2 + t.2)
  | none => none
theorem b_mul_le {k a b : Int} (hk : 0 ≤ k) (h : a ≤ b) : k * a ≤ k * b := Int.mul_le_mul_of_nonneg_left h hk
theorem b_mul_ge {k a b : Int} (hk : ¬ 0 ≤ k) (h : a ≤ b) : k * b ≤ k * a := Int.mul_le_mul_of_nonpos_left (by omega) h
theorem b_ivl_ok {v : List Int} {B : a_B} (hB : g_B v B) : ∀ {l : List (Nat × Int)} {p : Int × Int} {s : Int}, b_ivl B l = some p → b_vs v l = some s → p.1 ≤ s ∧ s ≤ p.2
  | [], p, s, h, hs => by
    cases h
    cases hs
    exact ⟨Int.le_refl _, Int.le_refl _⟩
  | q :: l, p, s, h, hs => by
    obtain ⟨w, r, h1, h2, rfl⟩ := b_vs_cons.mp hs
    unfold b_ivl at h
    split at h
    rotate_left
    · cases h
    rename_i r1 s1 e1 e2
    obtain ⟨w2, e3, e4, e5⟩ := g_bd hB e1
    rw [h1] at e3
    cases e3
    have ih := b_ivl_ok hB e2 h2
    split at h
    · rename_i hk
      cases h
      have a1 := b_mul_le hk e4
      have a2 := b_mul_le hk e5
      simp only
      omega
    · rename_i hk
      cases h
      have a1 := b_mul_ge hk e4
      have a2 := b_mul_ge hk e5
      simp only
      omega
theorem b_iv_ok {v : List Int} {B : a_B} (hB : g_B v B) {t : b_T} {p : Int × Int} {z : Int} (h : b_iv B t = some p) (hz : b_is v t z) : p.1 ≤ z ∧ z ≤ p.2 := by
  obtain ⟨s, h1, rfl⟩ := hz
  unfold b_iv at h
  split at h
  · rename_i q e
    cases h
    have := b_ivl_ok hB e h1
    simp only
    omega
  · cases h
/-- what is known: terms that are at least 0 -/
def bg_C (v : List Int) (C : List b_T) : Prop := ∀ c ∈ C, ∃ z, b_is v c z ∧ 0 ≤ z
theorem bg_C_ext {v t : List Int} {C : List b_T} (h : bg_C v C) : bg_C (v ++ t) C := fun c hc => by
  obtain ⟨z, h1, h2⟩ := h c hc
  exact ⟨z, b_is_ext h1, h2⟩
def b_cf (l : List (Nat × Int)) (i : Nat) : Int := match l with
  | [] => 0
  | q :: l => match Nat.beq q.1 i with
    | true => q.2
    | false => b_cf l i
/-- a term less some times a known one: the best least bound -/
def b_stp (B : a_B) (c e : b_T) : List (Nat × Int) → b_T × Int → b_T × Int
  | [], r => r
  | q :: l, r =>
    let k := b_cf e.1 q.1 / q.2
    if 0 < k ∧ k * q.2 = b_cf e.1 q.1 then
      (match b_iv B (b_ad e (-k) c) with
      | some p => if r.2 < p.1 then b_stp B c e l (b_ad e (-k) c, p.1) else b_stp B c e l r
      | none => b_stp B c e l r)
    else b_stp B c e l r
def b_enl (B : a_B) : List b_T → b_T × Int → Bool
  | [], r => decide (0 ≤ r.2)
  | c :: C, r => if 0 ≤ r.2 then true else b_enl B C (b_stp B c r.1 c.1 r)
/-- e is at least 0 -/
def b_ent (B : a_B) (C : List b_T) (e : b_T) : Bool := match b_iv B e with
  | some p => if 0 ≤ p.1 then true else b_enl B (C ++ C) (e, p.1)
  | none => false
def b_low (v : List Int) (x : Int) (r : b_T × Int) : Prop := ∃ z, b_is v r.1 z ∧ r.2 ≤ z ∧ z ≤ x
theorem b_stp_ok {v : List Int} {B : a_B} (hB : g_B v B) {c e : b_T} {y x : Int} (hc : b_is v c y) (hy : 0 ≤ y) (he : b_is v e x) {w : Int} (hw : x ≤ w) : ∀ {l : List (Nat × Int)} {r : b_T × Int}, b_low v w r → b_low v w (b_stp B c e l r)
  | [], r, h => h
  | q :: l, r, h => by
    unfold b_stp
    simp only
    split
    · rename_i hk
      split
      · rename_i p hp
        split
        · refine b_stp_ok hB hc hy he hw ?_
          have h1 := b_is_ad (k := -(b_cf e.1 q.1 / q.2)) he hc
          refine ⟨_, h1, (b_iv_ok hB hp h1).1, ?_⟩
          have := Int.mul_nonneg (Int.le_of_lt hk.1) hy
          rw [Int.neg_mul]
          omega
        · exact b_stp_ok hB hc hy he hw h
      · exact b_stp_ok hB hc hy he hw h
    · exact b_stp_ok hB hc hy he hw h
theorem b_enl_ok {v : List Int} {B : a_B} (hB : g_B v B) {w : Int} : ∀ {C : List b_T} {r : b_T × Int}, bg_C v C → b_low v w r → b_enl B C r = true → 0 ≤ w
  | [], r, _, h, he => by
    obtain ⟨z, h1, h2, h3⟩ := h
    simp only [b_enl, decide_eq_true_eq] at he
    omega
  | c :: C, r, hC, h, he => by
    unfold b_enl at he
    split at he
    · obtain ⟨z, h1, h2, h3⟩ := h
      omega
    · obtain ⟨y, hy1, hy2⟩ := hC c List.mem_cons_self
      obtain ⟨z, h1, h2, h3⟩ := id h
      exact b_enl_ok hB (fun d hd => hC d (List.mem_cons_of_mem _ hd)) (b_stp_ok hB hy1 hy2 h1 h3 h) he
theorem b_ent_ok {v : List Int} {B : a_B} {C : List b_T} (hB : g_B v B) (hC : bg_C v C) {e : b_T} {z : Int} (h : b_ent B C e = true) (hz : b_is v e z) : 0 ≤ z := by
  unfold b_ent at h
  split at h
  · rename_i p hp
    have hi := b_iv_ok hB hp hz
    split at h
    · omega
    · refine b_enl_ok hB (C := C ++ C) (r := (e, p.1)) (w := z) ?_ ⟨z, hz, hi.1, Int.le_refl _⟩ h
      intro c hc
      rcases List.mem_append.mp hc with hc | hc <;> exact hC c hc
  · cases h
/-- bounds narrowed by a sum that is at least 0; hi: its greatest value by the bounds -/
def b_rfs (B0 : a_B) (hi : Int) : List (Nat × Int) → a_B → Option a_B
  | [], B => some B
  | q :: l, B => match a_bd B0 q.1 with
    | none => b_rfs B0 hi l B
    | some r => if 0 < q.2 then
        (let a := a_mx r.1 (-((hi - q.2 * r.2) / q.2))
        if a ≤ r.2 then b_rfs B0 hi l ((q.1, a, r.2) :: B) else none)
      else if q.2 < 0 then
        (let b := a_mn r.2 ((hi - q.2 * r.1) / (-q.2))
        if r.1 ≤ b then b_rfs B0 hi l ((q.1, r.1, b) :: B) else none)
      else b_rfs B0 hi l B
/-- t is at least 0: bounds and what is known; none: it can't be -/
def b_asm (B : a_B) (C : List b_T) (t : b_T) : Option (a_B × List b_T) := match b_iv B t with
  | none => some (B, C)
  | some p => if p.2 < 0 then none else if 0 ≤ p.1 then some (B, C) else
      match t.1 with
      | [] => some (B, C)
      | [_] => (match b_rfs B p.2 t.1 B with | some B1 => some (B1, C) | none => none)
      | _ => if b_ent B C (b_ad (b_c (-1)) (-1) t) = true then none else (match b_rfs B p.2 t.1 B with | some B1 => some (B1, t :: C) | none => none)
theorem b_rest {v : List Int} {B : a_B} (hB : g_B v B) : ∀ {l : List (Nat × Int)} {p : Int × Int} {s : Int}, b_ivl B l = some p → b_vs v l = some s → ∀ q ∈ l, ∃ w r, v[q.1]? = some w ∧ a_bd B q.1 = some r ∧ r.1 ≤ w ∧ w ≤ r.2 ∧ s - q.2 * w ≤ p.2 - (if 0 ≤ q.2 then q.2 * r.2 else q.2 * r.1)
  | [], p, s, h, hs, q, hq => by cases hq
  | q0 :: l, p, s, h, hs, q, hq => by
    obtain ⟨w, r, h1, h2, rfl⟩ := b_vs_cons.mp hs
    unfold b_ivl at h
    split at h
    rotate_left
    · cases h
    rename_i r1 s1 e1 e2
    obtain ⟨w2, e3, e4, e5⟩ := g_bd hB e1
    rw [h1] at e3
    cases e3
    have hi := b_ivl_ok hB e2 h2
    rcases List.mem_cons.mp hq with rfl | hq
    · refine ⟨w, r1, h1, e1, e4, e5, ?_⟩
      split at h
      · rename_i hk
        cases h
        rw [if_pos hk]
        simp only
        omega
      · rename_i hk
        cases h
        rw [if_neg hk]
        simp only
        omega
    · obtain ⟨u, r2, a1, a2, a3, a4, a5⟩ := b_rest hB e2 h2 q hq
      refine ⟨u, r2, a1, a2, a3, a4, ?_⟩
      have b5 : q0.2 * w ≤ (if 0 ≤ q0.2 then q0.2 * r1.2 else q0.2 * r1.1) := by
        split
        · rename_i hk; exact b_mul_le hk e5
        · rename_i hk; exact b_mul_ge hk e4
      split at h
      · rename_i hk
        cases h
        rw [if_pos hk] at b5
        simp only
        omega
      · rename_i hk
        cases h
        rw [if_neg hk] at b5
        simp only
        omega
theorem b_rfs_ok {v : List Int} {B0 : a_B} {hi z : Int} (hz : 0 ≤ z) : ∀ {l : List (Nat × Int)} {B : a_B}, (∀ q ∈ l, ∃ w r, v[q.1]? = some w ∧ a_bd B0 q.1 = some r ∧ r.1 ≤ w ∧ w ≤ r.2 ∧ z - q.2 * w ≤ hi - (if 0 ≤ q.2 then q.2 * r.2 else q.2 * r.1)) → g_B v B → ∃ B1, b_rfs B0 hi l B = some B1 ∧ g_B v B1
  | [], B, _, hB => ⟨B, rfl, hB⟩
  | q :: l, B, hl, hB => by
    obtain ⟨w, r, a1, a2, a3, a4, a5⟩ := hl q List.mem_cons_self
    have hl2 : ∀ q ∈ l, _ := fun q hq => hl q (List.mem_cons_of_mem _ hq)
    unfold b_rfs
    rw [a2]
    simp only
    split
    · rename_i hk
      rw [if_pos (Int.le_of_lt hk)] at a5
      have h1 : -((hi - q.2 * r.2) / q.2) ≤ w := by
        have h2 : -w ≤ (hi - q.2 * r.2) / q.2 := by
          refine (Int.le_ediv_iff_mul_le hk).mpr ?_
          rw [Int.neg_mul, Int.mul_comm]
          omega
        omega
      have h3 : a_mx r.1 (-((hi - q.2 * r.2) / q.2)) ≤ w := a_mx_le a3 h1
      rw [if_pos (Int.le_trans h3 a4)]
      refine b_rfs_ok hz hl2 ?_
      intro x hx
      rcases List.mem_cons.mp hx with rfl | hx
      · exact ⟨w, a1, h3, a4⟩
      · exact hB x hx
    · split
      · rename_i hk1 hk
        rw [if_neg (by omega)] at a5
        have h1 : w ≤ (hi - q.2 * r.1) / (-q.2) := by
          refine (Int.le_ediv_iff_mul_le (by omega)).mpr ?_
          rw [Int.mul_neg, Int.mul_comm]
          omega
        have h3 : w ≤ a_mn r.2 ((hi - q.2 * r.1) / (-q.2)) := a_mn_ge a4 h1
        rw [if_pos (Int.le_trans a3 h3)]
        refine b_rfs_ok hz hl2 ?_
        intro x hx
        rcases List.mem_cons.mp hx with rfl | hx
        · exact ⟨w, a1, a3, h3⟩
        · exact hB x hx
      · exact b_rfs_ok hz hl2 hB
theorem b_asm_ok {v : List Int} {B : a_B} {C : List b_T} (hB : g_B v B) (hC : bg_C v C) {t : b_T} {z : Int} (hz : b_is v t z) (h0 : 0 ≤ z) : ∃ B1 C1, b_asm B C t = some (B1, C1) ∧ g_B v B1 ∧ bg_C v C1 := by
  unfold b_asm
  split
  · exact ⟨B, C, rfl, hB, hC⟩
  rename_i p hp
  have hi := b_iv_ok hB hp hz
  rw [if_neg (by omega)]
  split
  · exact ⟨B, C, rfl, hB, hC⟩
  have key : ∃ B1, b_rfs B p.2 t.1 B = some B1 ∧ g_B v B1 := by
    obtain ⟨s, h1, rfl⟩ := hz
    unfold b_iv at hp
    split at hp
    rotate_left
    · cases hp
    rename_i q hq
    cases hp
    refine b_rfs_ok (z := s + t.2) h0 ?_ hB
    intro x hx
    obtain ⟨w, r, a1, a2, a3, a4, a5⟩ := b_rest hB hq h1 x hx
    exact ⟨w, r, a1, a2, a3, a4, by simp only; omega⟩
  obtain ⟨B1, k1, k2⟩ := key
  split
  · exact ⟨B, C, rfl, hB, hC⟩
  · rename_i q hq
    rw [k1]
    exact ⟨B1, C, rfl, k2, hC⟩
  · split
    · rename_i he
      have h2 := b_ent_ok hB hC he (b_is_ad (k := -1) (b_is_c (-1)) hz)
      omega
    · rw [k1]
      refine ⟨B1, t :: C, rfl, k2, ?_⟩
      intro c hc
      rcases List.mem_cons.mp hc with rfl | hc
      · exact ⟨z, hz, h0⟩
      · exact hC c hc
def b_as2 (B : a_B) (C : List b_T) (t u : b_T) : Option (a_B × List b_T) := match b_asm B C t with
  | some (B1, C1) => b_asm B1 C1 u
  | none => none
def b_list {α : Type} (o : Option α) : List α := match o with
  | some x => [x]
  | none => []
/-- the cases of x c y -/
def b_cmp (B : a_B) (C : List b_T) (c : Jvm.ClassFile.Cond) (x y : b_T) : List (a_B × List b_T) :=
  let d := b_ad y (-1) x
  let n := b_ad x (-1) y
  match c with
  | .eq => b_list (b_as2 B C d n)
  | .ne => b_list (b_asm B C (d.1, d.2 - 1)) ++ b_list (b_asm B C (n.1, n.2 - 1))
  | .lt => b_list (b_asm B C (d.1, d.2 - 1))
  | .le => b_list (b_asm B C d)
  | .gt => b_list (b_asm B C (n.1, n.2 - 1))
  | .ge => b_list (b_asm B C n)
theorem b_is_m1 {v : List Int} {t : b_T} {z : Int} (h : b_is v t z) : b_is v (t.1, t.2 - 1) (z - 1) := by
  obtain ⟨s, h1, rfl⟩ := h
  exact ⟨s, h1, by show _ = s + (t.2 - 1); omega⟩
theorem b_list_mem {α : Type} {o : Option α} {x : α} (h : o = some x) : x ∈ b_list o := by
  subst h
  exact List.mem_singleton.mpr rfl
theorem b_cmp_ok {v : List Int} {B : a_B} {C : List b_T} (hB : g_B v B) (hC : bg_C v C) {c : Jvm.ClassFile.Cond} {x y : b_T} {a b : Int} (hx : b_is v x a) (hy : b_is v y b) (h : g_c c a b) : ∃ q ∈ b_cmp B C c x y, g_B v q.1 ∧ bg_C v q.2 := by
  have hd : b_is v (b_ad y (-1) x) (b - a) := by
    have := b_is_ad (k := -1) hy hx
    rw [show b + -1 * a = b - a by omega] at this
    exact this
  have hn : b_is v (b_ad x (-1) y) (a - b) := by
    have := b_is_ad (k := -1) hx hy
    rw [show a + -1 * b = a - b by omega] at this
    exact this
  unfold b_cmp
  cases c <;> simp only [g_c] at h <;> simp only
  · obtain ⟨B1, C1, e1, k1, k2⟩ := b_asm_ok hB hC hd (by omega)
    obtain ⟨B2, C2, e2, k3, k4⟩ := b_asm_ok k1 k2 hn (by omega)
    exact ⟨(B2, C2), b_list_mem (by unfold b_as2; rw [e1]; exact e2), k3, k4⟩
  · rcases Int.lt_or_gt_of_ne h with h | h
    · obtain ⟨B1, C1, e1, k1, k2⟩ := b_asm_ok hB hC (b_is_m1 hd) (by omega)
      exact ⟨(B1, C1), List.mem_append_left _ (b_list_mem e1), k1, k2⟩
    · obtain ⟨B1, C1, e1, k1, k2⟩ := b_asm_ok hB hC (b_is_m1 hn) (by omega)
      exact ⟨(B1, C1), List.mem_append_right _ (b_list_mem e1), k1, k2⟩
  · obtain ⟨B1, C1, e1, k1, k2⟩ := b_asm_ok hB hC (b_is_m1 hd) (by omega)
    exact ⟨(B1, C1), b_list_mem e1, k1, k2⟩
  · obtain ⟨B1, C1, e1, k1, k2⟩ := b_asm_ok hB hC hn (by omega)
    exact ⟨(B1, C1), b_list_mem e1, k1, k2⟩
  · obtain ⟨B1, C1, e1, k1, k2⟩ := b_asm_ok hB hC (b_is_m1 hn) (by omega)
    exact ⟨(B1, C1), b_list_mem e1, k1, k2⟩
  · obtain ⟨B1, C1, e1, k1, k2⟩ := b_asm_ok hB hC hd (by omega)
    exact ⟨(B1, C1), b_list_mem e1, k1, k2⟩
end
section
/-! NUMBERS THAT A STEP MAKES -/
abbrev b_R : Type := Nat × a_B × List b_T × b_N
def b_new (k : Nat) (B : a_B) (C : List b_T) (lg : Bool) (lo hi : Int) : b_R := if lo = hi then (k, B, C, (lg, b_c lo)) else (k + 1, (k, lo, hi) :: B, C, (lg, ([(k, 1)], 0)))
def b_top (k : Nat) (B : a_B) (C : List b_T) (lg : Bool) : b_R := b_new k B C lg (a_rng lg).1 (a_rng lg).2
/-- the term, where it is within its type -/
def b_num (k : Nat) (B : a_B) (C : List b_T) (lg : Bool) (t : b_T) : b_R := match b_iv B t with
  | some p => if (a_rng lg).1 ≤ p.1 ∧ p.2 ≤ (a_rng lg).2 then (k, B, C, (lg, t)) else b_top k B C lg
  | none => b_top k B C lg
/-- by the bounds of two -/
def b_by (k : Nat) (B : a_B) (C : List b_T) (lg : Bool) (f : Int × Int → Int × Int → Option (Int × Int)) (x y : b_T) : b_R := match b_iv B x, b_iv B y with
  | some p, some q => (match f p q with
    | some r => b_new k B C lg r.1 r.2
    | none => b_top k B C lg)
  | _, _ => b_top k B C lg
def b_mulf (p q : Int × Int) : Option (Int × Int) := if 0 ≤ p.1 ∧ 0 ≤ q.1 ∧ p.2 * q.2 ≤ 2147483647 then some (p.1 * q.1, p.2 * q.2) else none
def b_mul (k : Nat) (B : a_B) (C : List b_T) (lg : Bool) (x y : b_T) : b_R := match b_iv B x, b_iv B y with
  | some p, some q => if p.1 = p.2 then b_num k B C lg (b_sc p.1 y) else if q.1 = q.2 then b_num k B C lg (b_sc q.1 x) else (match lg with | false => b_by k B C lg b_mulf x y | true => b_top k B C lg)
  | _, _ => b_top k B C lg
def b_andf (p q : Int × Int) : Option (Int × Int) := if 0 ≤ p.1 then (if 0 ≤ q.1 then some (0, a_mn p.2 q.2) else some (0, p.2)) else if 0 ≤ q.1 then some (0, q.2) else none
def b_orf (p q : Int × Int) : Option (Int × Int) := if 0 ≤ p.1 ∧ 0 ≤ q.1 ∧ p.2 < 1048576 ∧ q.2 < 1048576 then some (0, 1048575) else none
def b_shlf (p q : Int × Int) : Option (Int × Int) := if 0 ≤ p.1 ∧ 0 ≤ q.1 ∧ q.2 ≤ 30 ∧ p.2 * 2 ^ q.2.toNat ≤ 2147483647 then some (p.1 * 2 ^ q.1.toNat, p.2 * 2 ^ q.2.toNat) else none
def b_shrf (p _ : Int × Int) : Option (Int × Int) := some (if 0 ≤ p.1 then (0, p.2) else (p.1, a_mx p.2 (-1)))
def b_divf (p q : Int × Int) : Option (Int × Int) := if 0 < q.1 then some (if 0 ≤ p.1 then 0 else Int.tdiv p.1 q.1, if 0 ≤ p.2 then p.2 / q.1 else 0) else none
/-- bits in common: not more than the one -/
def b_and (k : Nat) (B : a_B) (C : List b_T) (x y : b_T) : b_R := match x.1, y.1 with
  | _ :: _, _ :: _ => (match b_iv B x, b_iv B y with
    | some p, some q => if 0 ≤ p.1 ∧ 0 ≤ q.1 then (k + 1, (k, 0, a_mn p.2 q.2) :: B, b_ad x (-1) ([(k, 1)], 0) :: C, (false, ([(k, 1)], 0))) else b_by k B C false b_andf x y
    | _, _ => b_by k B C false b_andf x y)
  | _, _ => b_by k B C false b_andf x y
/-- all bits turned -/
def b_xor (k : Nat) (B : a_B) (C : List b_T) (x y : b_T) : b_R := if y = b_c (-1) then (k, B, C, (false, b_ad (b_c (-1)) (-1) x)) else b_top k B C false
/-- a rest of longs: less than the divisor, of the other's sign -/
def b_lrem (k : Nat) (B : a_B) (C : List b_T) (x y : b_T) : b_R := match b_iv B x, b_iv B y with
  | some p, some q =>
    if 0 < q.1 then
      (if 0 ≤ p.1 then (k + 1, (k, 0, q.2 - 1) :: B, b_ad (y.1, y.2 - 1) (-1) ([(k, 1)], 0) :: C, (true, ([(k, 1)], 0)))
      else if p.2 ≤ 0 then (k + 1, (k, 1 - q.2, 0) :: B, b_ad (y.1, y.2 - 1) 1 ([(k, 1)], 0) :: C, (true, ([(k, 1)], 0)))
      else b_new k B C true (1 - q.2) (q.2 - 1))
    else if q.2 < 0 then
      (if 0 ≤ p.1 then (k + 1, (k, 0, - q.1 - 1) :: B, b_ad (b_ad (b_c (-1)) (-1) y) (-1) ([(k, 1)], 0) :: C, (true, ([(k, 1)], 0)))
      else if p.2 ≤ 0 then (k + 1, (k, q.1 + 1, 0) :: B, b_ad (b_ad (b_c (-1)) (-1) y) 1 ([(k, 1)], 0) :: C, (true, ([(k, 1)], 0)))
      else b_new k B C true (q.1 + 1) (- q.1 - 1))
    else b_top k B C true
  | _, _ => b_top k B C true
def bg_R (v : List Int) (r : b_R) (lg : Bool) (z : Int) : Prop := ∃ t : List Int, (v ++ t).length = r.1 ∧ g_B (v ++ t) r.2.1 ∧ bg_C (v ++ t) r.2.2.1 ∧ r.2.2.2.1 = lg ∧ b_is (v ++ t) r.2.2.2.2 z
section BNUM
variable {v : List Int} {k : Nat} {B : a_B} {C : List b_T}
theorem bg_R0 (hk : v.length = k) (hB : g_B v B) (hC : bg_C v C) {lg : Bool} {t : b_T} {z : Int} (h : b_is v t z) : bg_R v (k, B, C, (lg, t)) lg z := ⟨[], by simpa using hk, by simpa using hB, by simpa using hC, rfl, by simpa using h⟩
theorem b_new_ok (hk : v.length = k) (hB : g_B v B) (hC : bg_C v C) {lg : Bool} {lo hi z : Int} (h1 : lo ≤ z) (h2 : z ≤ hi) : bg_R v (b_new k B C lg lo hi) lg z := by
  unfold b_new
  split
  · refine bg_R0 hk hB hC ?_
    have : z = lo := by omega
    subst this
    exact b_is_c _
  · have hv : (v ++ [z])[k]? = some z := by
      subst hk
      simp
    refine ⟨[z], by simp [hk], ?_, bg_C_ext hC, rfl, b_is_var hv⟩
    intro q hq
    rcases List.mem_cons.mp hq with rfl | hq
    · exact ⟨z, hv, h1, h2⟩
    · exact g_B_ext hB q hq
theorem b_top_ok (hk : v.length = k) (hB : g_B v B) (hC : bg_C v C) {lg : Bool} {z : Int} (h : g_in lg z) : bg_R v (b_top k B C lg) lg z := b_new_ok hk hB hC h.1 h.2
theorem b_num_ok (hk : v.length = k) (hB : g_B v B) (hC : bg_C v C) {lg : Bool} {t : b_T} {z w : Int} (ht : b_is v t w) (hw : g_in lg w → z = w) (hz : g_in lg z) : bg_R v (b_num k B C lg t) lg z := by
  unfold b_num
  split
  · rename_i p hp
    split
    · rename_i h
      have := b_iv_ok hB hp ht
      have e := hw ⟨by omega, by omega⟩
      subst e
      exact bg_R0 hk hB hC ht
    · exact b_top_ok hk hB hC hz
  · exact b_top_ok hk hB hC hz
theorem b_by_ok (hk : v.length = k) (hB : g_B v B) (hC : bg_C v C) {lg : Bool} {f : Int × Int → Int × Int → Option (Int × Int)} {x y : b_T} {a b z : Int} (hx : b_is v x a) (hy : b_is v y b) (hz : g_in lg z) (hf : ∀ p q r, f p q = some r → p.1 ≤ a ∧ a ≤ p.2 → q.1 ≤ b ∧ b ≤ q.2 → r.1 ≤ z ∧ z ≤ r.2) : bg_R v (b_by k B C lg f x y) lg z := by
  unfold b_by
  split
  · rename_i p q hp hq
    split
    · rename_i r hr
      have := hf p q r hr (b_iv_ok hB hp hx) (b_iv_ok hB hq hy)
      exact b_new_ok hk hB hC this.1 this.2
    · exact b_top_ok hk hB hC hz
  · exact b_top_ok hk hB hC hz
theorem b_add32_ok (hk : v.length = k) (hB : g_B v B) (hC : bg_C v C) {x y : b_T} {a b : Int32} (hx : b_is v x a.toInt) (hy : b_is v y b.toInt) : bg_R v (b_num k B C false (b_ad x 1 y)) false (a + b).toInt := by
  have h := b_is_ad (k := 1) hx hy
  rw [Int.one_mul] at h
  exact b_num_ok hk hB hC h (fun h => g_add32 h) (g_in32 _)
theorem b_sub32_ok (hk : v.length = k) (hB : g_B v B) (hC : bg_C v C) {x y : b_T} {a b : Int32} (hx : b_is v x a.toInt) (hy : b_is v y b.toInt) : bg_R v (b_num k B C false (b_ad x (-1) y)) false (a - b).toInt := by
  have h := b_is_ad (k := -1) hx hy
  rw [show a.toInt + -1 * b.toInt = a.toInt - b.toInt by omega] at h
  exact b_num_ok hk hB hC h (fun h => g_sub32 h) (g_in32 _)
theorem b_add64_ok (hk : v.length = k) (hB : g_B v B) (hC : bg_C v C) {x y : b_T} {a b : Int64} (hx : b_is v x a.toInt) (hy : b_is v y b.toInt) : bg_R v (b_num k B C true (b_ad x 1 y)) true (a + b).toInt := by
  have h := b_is_ad (k := 1) hx hy
  rw [Int.one_mul] at h
  exact b_num_ok hk hB hC h (fun h => g_add64 h) (g_in64 _)
theorem b_sub64_ok (hk : v.length = k) (hB : g_B v B) (hC : bg_C v C) {x y : b_T} {a b : Int64} (hx : b_is v x a.toInt) (hy : b_is v y b.toInt) : bg_R v (b_num k B C true (b_ad x (-1) y)) true (a - b).toInt := by
  have h := b_is_ad (k := -1) hx hy
  rw [show a.toInt + -1 * b.toInt = a.toInt - b.toInt by omega] at h
  exact b_num_ok hk hB hC h (fun h => g_sub64 h) (g_in64 _)
theorem b_neg32_ok (hk : v.length = k) (hB : g_B v B) (hC : bg_C v C) {x : b_T} {a : Int32} (hx : b_is v x a.toInt) : bg_R v (b_num k B C false (b_sc (-1) x)) false (-a).toInt := by
  have h := b_is_sc (k := -1) hx
  refine b_num_ok hk hB hC h (fun h => ?_) (g_in32 _)
  rw [Int32.toInt_neg]
  have h1 : (-2147483648 : Int) ≤ -1 * a.toInt := h.1
  have h2 : -1 * a.toInt ≤ (2147483647 : Int) := h.2
  rw [show -1 * a.toInt = -a.toInt by omega] at *
  exact Int.bmod_eq_of_le (by omega) (by omega)
theorem g_mul64 (hk : v.length = k) (hB : g_B v B) (hC : bg_C v C) {x y : Int64} (h : g_in true (x.toInt * y.toInt)) : (x * y).toInt = x.toInt * y.toInt := by
  rw [Int64.toInt_mul]
  have h1 : (-9223372036854775808 : Int) ≤ x.toInt * y.toInt := h.1
  have h2 : x.toInt * y.toInt ≤ (9223372036854775807 : Int) := h.2
  exact Int.bmod_eq_of_le (by omega) (by omega)
theorem b_mul32_ok (hk : v.length = k) (hB : g_B v B) (hC : bg_C v C) {x y : b_T} {a b : Int32} (hx : b_is v x a.toInt) (hy : b_is v y b.toInt) : bg_R v (b_mul k B C false x y) false (a * b).toInt := by
  unfold b_mul
  split
  · rename_i p q hp hq
    have h1 := b_iv_ok hB hp hx
    have h2 := b_iv_ok hB hq hy
    split
    · have e : p.1 = a.toInt := by omega
      rw [e]
      exact b_num_ok hk hB hC (b_is_sc hy) (fun h => g_mul32 h) (g_in32 _)
    · split
      · have e : q.1 = b.toInt := by omega
        rw [e]
        refine b_num_ok hk hB hC (b_is_sc hx) (fun h => ?_) (g_in32 _)
        rw [Int.mul_comm] at h ⊢
        exact g_mul32 h
      · refine b_by_ok hk hB hC hx hy (g_in32 _) ?_
        intro p q r hr hp hq
        unfold b_mulf at hr
        split at hr
        · rename_i hc
          cases hr
          have h3 : 0 ≤ a.toInt * b.toInt := Int.mul_nonneg (by omega) (by omega)
          have h4 : a.toInt * b.toInt ≤ p.2 * q.2 := Int.mul_le_mul hp.2 hq.2 (by omega) (by omega)
          have h5 : p.1 * q.1 ≤ a.toInt * b.toInt := Int.mul_le_mul hp.1 hq.1 (by omega) (by omega)
          rw [g_mul32 ⟨by show (-2147483648 : Int) ≤ _; omega, by show _ ≤ (2147483647 : Int); omega⟩]
          exact ⟨h5, h4⟩
        · cases hr
  · exact b_top_ok hk hB hC (g_in32 _)
theorem b_mul64_ok (hk : v.length = k) (hB : g_B v B) (hC : bg_C v C) {x y : b_T} {a b : Int64} (hx : b_is v x a.toInt) (hy : b_is v y b.toInt) : bg_R v (b_mul k B C true x y) true (a * b).toInt := by
  unfold b_mul
  split
  · rename_i p q hp hq
    have h1 := b_iv_ok hB hp hx
    have h2 := b_iv_ok hB hq hy
    split
    · have e : p.1 = a.toInt := by omega
      rw [e]
      exact b_num_ok hk hB hC (b_is_sc hy) (fun h => g_mul64 hk hB hC h) (g_in64 _)
    · split
      · have e : q.1 = b.toInt := by omega
        rw [e]
        refine b_num_ok hk hB hC (b_is_sc hx) (fun h => ?_) (g_in64 _)
        rw [Int.mul_comm] at h ⊢
        exact g_mul64 hk hB hC h
      · exact b_top_ok hk hB hC (g_in64 _)
  · exact b_top_ok hk hB hC (g_in64 _)
theorem b_and32_ok (hk : v.length = k) (hB : g_B v B) (hC : bg_C v C) {x y : b_T} {a b : Int32} (hx : b_is v x a.toInt) (hy : b_is v y b.toInt) : bg_R v (b_by k B C false b_andf x y) false (a &&& b).toInt := by
  refine b_by_ok hk hB hC hx hy (g_in32 _) ?_
  intro p q r hr hp hq
  unfold b_andf at hr
  split at hr
  · have h1 := g_and_l (x := a) (y := b) (by omega)
    split at hr
    · cases hr
      have h2 := g_and_r (x := a) (y := b) (by omega)
      exact ⟨h1.1, a_mn_ge (by omega) (by omega)⟩
    · cases hr
      exact ⟨h1.1, by simp only; omega⟩
  · split at hr
    · cases hr
      have h2 := g_and_r (x := a) (y := b) (by omega)
      exact ⟨h2.1, by simp only; omega⟩
    · cases hr
theorem b_shr32_ok (hk : v.length = k) (hB : g_B v B) (hC : bg_C v C) {x y : b_T} {a b : Int32} (hx : b_is v x a.toInt) (hy : b_is v y b.toInt) : bg_R v (b_by k B C false b_shrf x y) false (a >>> (b &&& 31)).toInt := by
  refine b_by_ok hk hB hC hx hy (g_in32 _) ?_
  intro p q r hr hp hq
  cases hr
  have := g_shrb (x := a) (y := b) (a := p) (b := q) hp
  unfold a_shr at this
  exact this
end BNUM
theorem b_nn32 {x : Int32} (h : 0 ≤ x.toInt) : x.toInt = (x.toBitVec.toNat : Int) ∧ x.toBitVec.toNat < 2 ^ 31 := by
  have h1 : x.toInt = x.toBitVec.toInt := rfl
  rw [h1, BitVec.toInt_eq_toNat_cond] at h ⊢
  have := x.toBitVec.isLt
  split at h <;> rename_i hc
  · rw [if_pos hc]
    exact ⟨rfl, by omega⟩
  · omega
theorem b_or32 {x y : Int32} (hx : 0 ≤ x.toInt) (hx2 : x.toInt < 1048576) (hy : 0 ≤ y.toInt) (hy2 : y.toInt < 1048576) : 0 ≤ (x ||| y).toInt ∧ (x ||| y).toInt ≤ 1048575 := by
  have h1 := b_nn32 hx
  have h2 := b_nn32 hy
  have h3 : (x ||| y).toBitVec.toNat = x.toBitVec.toNat ||| y.toBitVec.toNat := by simp
  have h4 : x.toBitVec.toNat ||| y.toBitVec.toNat < 2 ^ 20 := Nat.or_lt_two_pow (by omega) (by omega)
  have h5 : (x ||| y).toInt = ((x ||| y).toBitVec.toNat : Int) := by
    show (x ||| y).toBitVec.toInt = _
    rw [BitVec.toInt_eq_toNat_cond, if_pos (by rw [h3]; omega)]
  rw [h5, h3]
  omega
theorem b_shl32 {x y : Int32} (hx : 0 ≤ x.toInt) (hy : 0 ≤ y.toInt) (hy2 : y.toInt ≤ 30) (h : x.toInt * 2 ^ y.toInt.toNat ≤ 2147483647) : (x <<< (y &&& 31)).toInt = x.toInt * 2 ^ y.toInt.toNat := by
  have h1 := b_nn32 hx
  have h2 := b_nn32 hy
  have e1 : (y &&& 31) = y := by
    rw [← Int32.toBitVec_inj]
    apply BitVec.eq_of_toNat_eq
    have : (y &&& 31).toBitVec.toNat = y.toBitVec.toNat &&& 31 := by simp
    rw [this]
    exact Nat.and_two_pow_sub_one_of_lt_two_pow (n := 5) (by omega)
  rw [e1]
  have e2 : y.toInt.toNat = y.toBitVec.toNat := by omega
  rw [e2] at h ⊢
  have e3 : (x <<< y).toBitVec.toNat = (x.toBitVec.toNat * 2 ^ y.toBitVec.toNat) % 2 ^ 32 := by
    have e31 : (x <<< y).toBitVec = x.toBitVec <<< (y.toBitVec.smod 32) := rfl
    have e32 : (y.toBitVec.smod 32).toNat = y.toBitVec.toNat := by
      have e33 : y.toBitVec.smod 32 = y.toBitVec := by
        apply BitVec.eq_of_toInt_eq
        rw [BitVec.toInt_smod]
        have : y.toBitVec.toInt = y.toInt := rfl
        rw [this]
        have h32 : (32#32).toInt = 32 := by decide
        show y.toInt.fmod (32#32).toInt = _
        rw [h32, Int.fmod_eq_emod_of_nonneg _ (by omega)]
        omega
      rw [e33]
    rw [e31, BitVec.shiftLeft_eq', BitVec.toNat_shiftLeft, e32, Nat.shiftLeft_eq]
  have e4 : x.toBitVec.toNat * 2 ^ y.toBitVec.toNat ≤ 2147483647 := by
    rw [h1.1] at h
    have : ((x.toBitVec.toNat * 2 ^ y.toBitVec.toNat : Nat) : Int) ≤ 2147483647 := by
      rw [Int.natCast_mul, Int.natCast_pow]
      exact h
    omega
  have e5 : (x <<< y).toBitVec.toNat = x.toBitVec.toNat * 2 ^ y.toBitVec.toNat := by
    rw [e3]
    exact Nat.mod_eq_of_lt (by omega)
  have e6 : (x <<< y).toInt = ((x <<< y).toBitVec.toNat : Int) := by
    show (x <<< y).toBitVec.toInt = _
    rw [BitVec.toInt_eq_toNat_cond, if_pos (by rw [e5]; omega)]
  rw [e6, e5, h1.1, Int.natCast_mul, Int.natCast_pow]
  rfl
theorem b_pow_le {a b : Nat} (h : a ≤ b) : (2 : Int) ^ a ≤ 2 ^ b := by
  have := Nat.pow_le_pow_right (n := 2) (by omega) h
  have h2 : ((2 ^ a : Nat) : Int) ≤ ((2 ^ b : Nat) : Int) := by omega
  rw [Int.natCast_pow, Int.natCast_pow] at h2
  exact h2
theorem b_pow_nn (a : Nat) : (0 : Int) ≤ 2 ^ a := by
  have h2 : (0 : Int) ≤ ((2 ^ a : Nat) : Int) := Int.natCast_nonneg _
  rw [Int.natCast_pow] at h2
  exact h2
section BNUM2
variable {v : List Int} {k : Nat} {B : a_B} {C : List b_T}
theorem b_or32_ok (hk : v.length = k) (hB : g_B v B) (hC : bg_C v C) {x y : b_T} {a b : Int32} (hx : b_is v x a.toInt) (hy : b_is v y b.toInt) : bg_R v (b_by k B C false b_orf x y) false (a ||| b).toInt := by
  refine b_by_ok hk hB hC hx hy (g_in32 _) ?_
  intro p q r hr hp hq
  unfold b_orf at hr
  split at hr
  · cases hr
    exact b_or32 (by omega) (by omega) (by omega) (by omega)
  · cases hr
theorem b_shl32_ok (hk : v.length = k) (hB : g_B v B) (hC : bg_C v C) {x y : b_T} {a b : Int32} (hx : b_is v x a.toInt) (hy : b_is v y b.toInt) : bg_R v (b_by k B C false b_shlf x y) false (a <<< (b &&& 31)).toInt := by
  refine b_by_ok hk hB hC hx hy (g_in32 _) ?_
  intro p q r hr hp hq
  unfold b_shlf at hr
  split at hr
  · rename_i hc
    cases hr
    have h1 : (2 : Int) ^ b.toInt.toNat ≤ 2 ^ q.2.toNat := b_pow_le (by omega)
    have h2 : (2 : Int) ^ q.1.toNat ≤ 2 ^ b.toInt.toNat := b_pow_le (by omega)
    have h3 := b_pow_nn b.toInt.toNat
    have h4 := b_pow_nn q.2.toNat
    have h5 : a.toInt * 2 ^ b.toInt.toNat ≤ p.2 * 2 ^ q.2.toNat := Int.mul_le_mul hp.2 h1 h3 (by omega)
    have h6 : p.1 * 2 ^ q.1.toNat ≤ a.toInt * 2 ^ b.toInt.toNat := Int.mul_le_mul hp.1 h2 (b_pow_nn _) (by omega)
    rw [b_shl32 (by omega) (by omega) (by omega) (by omega)]
    exact ⟨h6, h5⟩
  · cases hr
theorem b_tdiv_nn (hk : v.length = k) (hB : g_B v B) (hC : bg_C v C) {a u b q : Int} (ha : 0 ≤ a) (haq : a ≤ q) (hu : 0 < u) (hub : u ≤ b) : 0 ≤ a.tdiv b ∧ a.tdiv b ≤ q / u := by
  rw [Int.tdiv_eq_ediv_of_nonneg ha]
  have h1 : 0 ≤ a / b := Int.ediv_nonneg ha (by omega)
  refine ⟨h1, (Int.le_ediv_iff_mul_le hu).mpr ?_⟩
  have h2 : a / b * b ≤ a := Int.ediv_mul_le a (by omega)
  have h3 : a / b * u ≤ a / b * b := Int.mul_le_mul_of_nonneg_left hub h1
  omega
theorem b_div32_ok (hk : v.length = k) (hB : g_B v B) (hC : bg_C v C) {x y : b_T} {a b : Int32} (hx : b_is v x a.toInt) (hy : b_is v y b.toInt) : bg_R v (b_by k B C false b_divf x y) false (a / b).toInt := by
  refine b_by_ok hk hB hC hx hy (g_in32 _) ?_
  intro p q r hr hp hq
  unfold b_divf at hr
  split at hr
  rotate_left
  · cases hr
  rename_i hc
  cases hr
  have ha := g_in32 a
  have ha1 : (-2147483648 : Int) ≤ a.toInt := ha.1
  have ha2 : a.toInt ≤ (2147483647 : Int) := ha.2
  have key : (if 0 ≤ p.1 then 0 else Int.tdiv p.1 q.1) ≤ a.toInt.tdiv b.toInt ∧ a.toInt.tdiv b.toInt ≤ (if 0 ≤ p.2 then p.2 / q.1 else 0) ∧ -2147483648 ≤ a.toInt.tdiv b.toInt ∧ a.toInt.tdiv b.toInt ≤ 2147483647 := by
    rcases Int.le_total 0 a.toInt with h0 | h0
    · have h1 := b_tdiv_nn hk hB hC h0 hp.2 hc hq.1
      have h2 := b_tdiv_nn hk hB hC h0 ha2 (show (0 : Int) < 1 by omega) (show 1 ≤ b.toInt by omega)
      rw [Int.ediv_one] at h2
      refine ⟨?_, ?_, by omega, by omega⟩
      · split
        · omega
        · have h3 := (b_tdiv_nn hk hB hC (a := -p.1) (u := 1) (b := q.1) (q := -p.1) (by omega) (by omega) (by omega) (by omega)).1
          rw [Int.neg_tdiv] at h3
          omega
      · rw [if_pos (by omega)]
        exact h1.2
    · have e1 : a.toInt.tdiv b.toInt = -((-a.toInt).tdiv b.toInt) := by rw [Int.neg_tdiv]; omega
      have h1 := b_tdiv_nn hk hB hC (a := -a.toInt) (q := -p.1) (b := b.toInt) (u := q.1) (by omega) (by omega) hc hq.1
      have h2 := b_tdiv_nn hk hB hC (a := -a.toInt) (q := 2147483648) (b := b.toInt) (u := 1) (by omega) (by omega) (by omega) (by omega)
      rw [Int.ediv_one] at h2
      rw [e1]
      refine ⟨?_, ?_, by omega, by omega⟩
      · split
        · have : a.toInt = 0 := by omega
          rw [this]
          simp
        · have e2 : Int.tdiv p.1 q.1 = -((-p.1) / q.1) := by
            rw [← Int.tdiv_eq_ediv_of_nonneg (by omega), Int.neg_tdiv]
            omega
          rw [e2]
          omega
      · split
        · rename_i h5
          have := Int.ediv_nonneg h5 (Int.le_of_lt hc)
          omega
        · omega
  rw [Int32.toInt_div, Int.bmod_eq_of_le (by omega) (by omega)]
  exact ⟨key.1, key.2.1⟩
end BNUM2
theorem b_rem64 (x y : Int64) : (x - x / y * y).toInt = x.toInt.tmod y.toInt := by
  have hx1 := Int64.le_toInt x
  have hx2 := Int64.toInt_lt x
  have hy1 := Int64.le_toInt y
  have hy2 := Int64.toInt_lt y
  rw [Int64.toInt_sub, Int64.toInt_mul, Int64.toInt_div]
  rw [Int.bmod_mul_bmod, Int.sub_bmod_bmod]
  have e : x.toInt - x.toInt.tdiv y.toInt * y.toInt = x.toInt.tmod y.toInt := by
    have := Int.mul_tdiv_add_tmod x.toInt y.toInt
    rw [Int.mul_comm] at this
    omega
  rw [e]
  have h1 : (x.toInt.tmod y.toInt).natAbs ≤ x.toInt.natAbs := by
    rw [Int.natAbs_tmod]
    exact Nat.mod_le _ _
  rcases Int.le_total 0 x.toInt with h | h
  · have h2 := Int.tmod_nonneg y.toInt h
    exact Int.bmod_eq_of_le (by omega) (by omega)
  · have h2 : x.toInt.tmod y.toInt ≤ 0 := by
      have h3 := Int.tmod_nonneg y.toInt (a := -x.toInt) (by omega)
      rw [Int.neg_tmod] at h3
      omega
    exact Int.bmod_eq_of_le (by omega) (by omega)
theorem b_tmod {a b : Int} (hb : b ≠ 0) : (0 ≤ a → 0 ≤ a.tmod b) ∧ (a ≤ 0 → a.tmod b ≤ 0) ∧ (a.tmod b < b ∨ a.tmod b < -b) ∧ (-b < a.tmod b ∨ b < a.tmod b) ∧ (0 < b → a.tmod b < b ∧ -b < a.tmod b) ∧ (b < 0 → a.tmod b < -b ∧ b < a.tmod b) := by
  have h0 : (a.tmod b).natAbs < b.natAbs := by
    rw [Int.natAbs_tmod]
    exact Nat.mod_lt _ (by omega)
  refine ⟨fun h => Int.tmod_nonneg b h, fun h => ?_, by omega, by omega, fun h => by omega, fun h => by omega⟩
  have h3 := Int.tmod_nonneg b (a := -a) (by omega)
  rw [Int.neg_tmod] at h3
  omega
section BNUM3
variable {v : List Int} {k : Nat} {B : a_B} {C : List b_T}
theorem b_newc (hk : v.length = k) (hB : g_B v B) (hC : bg_C v C) {lo hi z : Int} {lg : Bool} {c : b_T} {w : Int} (h1 : lo ≤ z) (h2 : z ≤ hi) (hc : ∀ t, (v ++ t)[k]? = some z → b_is (v ++ t) c w) (hw : 0 ≤ w) : bg_R v (k + 1, (k, lo, hi) :: B, c :: C, (lg, ([(k, 1)], 0))) lg z := by
  have hv : (v ++ [z])[k]? = some z := by
    subst hk
    simp
  refine ⟨[z], by simp [hk], ?_, ?_, rfl, b_is_var hv⟩
  · intro q hq
    rcases List.mem_cons.mp hq with rfl | hq
    · exact ⟨z, hv, h1, h2⟩
    · exact g_B_ext hB q hq
  · intro d hd
    rcases List.mem_cons.mp hd with rfl | hd
    · exact ⟨w, hc _ hv, hw⟩
    · exact bg_C_ext hC d hd
theorem b_lrem_ok (hk : v.length = k) (hB : g_B v B) (hC : bg_C v C) {x y : b_T} {a b : Int64} (hx : b_is v x a.toInt) (hy : b_is v y b.toInt) (hb : b.toInt ≠ 0) : bg_R v (b_lrem k B C x y) true (a - a / b * b).toInt := by
  have hin := g_in64 (a - a / b * b)
  rw [b_rem64] at hin ⊢
  obtain ⟨t1, t2, -, -, t3, t4⟩ := b_tmod (a := a.toInt) hb
  unfold b_lrem
  split
  rotate_left
  · exact b_top_ok hk hB hC hin
  rename_i p q hp hq
  have h1 := b_iv_ok hB hp hx
  have h2 := b_iv_ok hB hq hy
  split
  · have t3 := t3 (by omega)
    split
    · refine b_newc hk hB hC (by have := t1 (by omega); omega) (by omega) (w := b.toInt - 1 - a.toInt.tmod b.toInt) (fun t ht => ?_) (by omega)
      have h := b_is_ad (k := -1) (b_is_m1 (b_is_ext (t := t) hy)) (b_is_var ht)
      rw [show b.toInt - 1 + -1 * a.toInt.tmod b.toInt = b.toInt - 1 - a.toInt.tmod b.toInt by omega] at h
      exact h
    · split
      · refine b_newc hk hB hC (by omega) (by have := t2 (by omega); omega) (w := b.toInt - 1 + a.toInt.tmod b.toInt) (fun t ht => ?_) (by omega)
        have h := b_is_ad (k := 1) (b_is_m1 (b_is_ext (t := t) hy)) (b_is_var ht)
        rw [Int.one_mul] at h
        exact h
      · exact b_new_ok hk hB hC (by omega) (by omega)
  · split
    · have t4 := t4 (by omega)
      split
      · refine b_newc hk hB hC (by have := t1 (by omega); omega) (by omega) (w := -1 - b.toInt - a.toInt.tmod b.toInt) (fun t ht => ?_) (by omega)
        have h := b_is_ad (k := -1) (b_is_ad (k := -1) (b_is_c (-1)) (b_is_ext (t := t) hy)) (b_is_var ht)
        rw [show -1 + -1 * b.toInt + -1 * a.toInt.tmod b.toInt = -1 - b.toInt - a.toInt.tmod b.toInt by omega] at h
        exact h
      · split
        · refine b_newc hk hB hC (by omega) (by have := t2 (by omega); omega) (w := -1 - b.toInt + a.toInt.tmod b.toInt) (fun t ht => ?_) (by omega)
          have h := b_is_ad (k := 1) (b_is_ad (k := -1) (b_is_c (-1)) (b_is_ext (t := t) hy)) (b_is_var ht)
          rw [show -1 + -1 * b.toInt + 1 * a.toInt.tmod b.toInt = -1 - b.toInt + a.toInt.tmod b.toInt by omega] at h
          exact h
        · exact b_new_ok hk hB hC (by omega) (by omega)
    · exact b_top_ok hk hB hC hin
theorem b_xor_ok (hk : v.length = k) (hB : g_B v B) (hC : bg_C v C) {x y : b_T} {a b : Int32} (hx : b_is v x a.toInt) (hy : b_is v y b.toInt) : bg_R v (b_xor k B C x y) false (a ^^^ b).toInt := by
  unfold b_xor
  split
  · rename_i e
    rw [e] at hy
    have e1 : b.toInt = -1 := b_is_uniq hy (b_is_c (-1))
    have e2 : b = -1 := Int32.toInt_inj.mp (by rw [e1]; decide)
    have e3 : (a ^^^ b).toInt = -1 + -1 * a.toInt := by
      rw [e2, Int32.xor_comm, Int32.neg_one_xor, Int32.toInt_not]
      have h1 := Int32.le_toInt a
      have h2 := Int32.toInt_lt a
      have e4 : (-a.toInt - 1).bmod (2 ^ 32) = -a.toInt - 1 := by
        apply Int.bmod_eq_of_le <;> omega
      rw [e4]
      omega
    rw [e3]
    exact bg_R0 hk hB hC (b_is_ad (k := -1) (b_is_c (-1)) hx)
  · exact b_top_ok hk hB hC (g_in32 _)
theorem b_and_ok (hk : v.length = k) (hB : g_B v B) (hC : bg_C v C) {x y : b_T} {a b : Int32} (hx : b_is v x a.toInt) (hy : b_is v y b.toInt) : bg_R v (b_and k B C x y) false (a &&& b).toInt := by
  unfold b_and
  split
  rotate_left
  · exact b_and32_ok hk hB hC hx hy
  split
  rotate_left
  · exact b_and32_ok hk hB hC hx hy
  rename_i p q hp hq
  split
  rotate_left
  · exact b_and32_ok hk hB hC hx hy
  rename_i hc
  have h1 := b_iv_ok hB hp hx
  have h2 := b_iv_ok hB hq hy
  have g1 := g_and_l (x := a) (y := b) (by omega)
  have g2 := g_and_r (x := a) (y := b) (by omega)
  refine b_newc (z := (a &&& b).toInt) (lo := 0) (hi := a_mn p.2 q.2) hk hB hC g1.1 (a_mn_ge (by omega) (by omega)) (w := a.toInt - (a &&& b).toInt) (fun t ht => ?_) (by omega)
  have h := b_is_ad (k := -1) (b_is_ext (t := t) hx) (b_is_var ht)
  rw [show a.toInt + -1 * (a &&& b).toInt = a.toInt - (a &&& b).toInt by omega] at h
  exact h
end BNUM3
end
section
/-! THE CHECKER'S PURE STEPS -/
abbrev b_P : Type := Nat × a_B × List b_T × Nat × b_L × List b_V
def bg_n (v : List Int) (x : b_N) (y : Value) : Prop := match x.1 with
  | false => ∃ z : Int32, y = .int z ∧ b_is v x.2 z.toInt
  | true => ∃ z : Int64, y = .long z ∧ b_is v x.2 z.toInt
def bg_v (v : List Int) (x : b_V) (y : Value) : Prop := match x with
  | .inl n => bg_n v n y
  | .inr (.inl k) => y = .ref k
  | .inr (.inr k) => y = .retAddr k
def b_get (l : b_L) (k : Nat) : Option b_V := match l with
  | [] => none
  | q :: l => match Nat.beq q.1 k with
    | true => some q.2
    | false => b_get l k
def b_cat (v : b_V) : Nat := match v with
  | .inl (true, _) => 2
  | _ => 1
def b_del (l : b_L) (i : Nat) : b_L := l.filter (fun q => !(Nat.beq q.1 i))
/-- a two-word value below is gone too -/
def b_lw (l : b_L) (i : Nat) : b_L := match i with
  | 0 => l
  | i + 1 => match b_get l i with
    | some x => (match Nat.beq (b_cat x) 2 with | true => b_del l i | false => l)
    | none => l
def b_s1 (l : b_L) (i : Nat) (v : b_V) : b_L := (i, v) :: b_lw (b_del l i) i
def b_s2 (l : b_L) (i : Nat) (v : b_V) : b_L := (i, v) :: b_lw (b_del (b_del l i) (i + 1)) i
abbrev bg_s (v : List Int) (sa : List b_V) (st : List Value) : Prop := g_2 (bg_v v) sa st
def bg_L (v : List Int) (la : b_L) (l : q_L) : Prop := ∀ k x, b_get la k = some x → ∃ y, q_get l k = some y ∧ bg_v v x y
theorem bg_n_ext {v t : List Int} {x : b_N} {y : Value} (h : bg_n v x y) : bg_n (v ++ t) x y := by
  obtain ⟨lg, e⟩ := x
  cases lg with
  | false =>
    obtain ⟨z, h1, h2⟩ := h
    exact ⟨z, h1, b_is_ext h2⟩
  | true =>
    obtain ⟨z, h1, h2⟩ := h
    exact ⟨z, h1, b_is_ext h2⟩
theorem bg_v_ext {v t : List Int} {x : b_V} {y : Value} (h : bg_v v x y) : bg_v (v ++ t) x y := by
  match x, h with
  | .inl n, h => exact bg_n_ext h
  | .inr (.inl k), h => exact h
  | .inr (.inr k), h => exact h
theorem bg_s_ext {v t : List Int} {sa : List b_V} {st : List Value} (h : bg_s v sa st) : bg_s (v ++ t) sa st := g_2_mono (fun _ _ => bg_v_ext) h
theorem bg_L_ext {v t : List Int} {la : b_L} {l : q_L} (h : bg_L v la l) : bg_L (v ++ t) la l := fun k x hx => by
  obtain ⟨y, h1, h2⟩ := h k x hx
  exact ⟨y, h1, bg_v_ext h2⟩
theorem bg_cat {v : List Int} {x : b_V} {y : Value} (h : bg_v v x y) : b_cat x = y.category := by
  match x, h with
  | .inl (false, e), h =>
    obtain ⟨z, rfl, -⟩ := h
    rfl
  | .inl (true, e), h =>
    obtain ⟨z, rfl, -⟩ := h
    rfl
  | .inr (.inl k), h =>
    have h : y = .ref k := h
    subst h
    rfl
  | .inr (.inr k), h =>
    have h : y = .retAddr k := h
    subst h
    rfl
theorem q_get_filter {P : Nat × Value → Bool} : ∀ {l : q_L} {k : Nat} {y : Value}, q_get l k = some y → P (k, y) = true → q_get (l.filter P) k = some y
  | [], k, y, h, _ => by simp [q_get] at h
  | q :: l, k, y, h, hP => by
    unfold q_get at h
    rw [List.filter_cons]
    by_cases hk : q.1 = k
    · rw [if_pos hk] at h
      cases h
      subst hk
      rw [if_pos hP]
      unfold q_get
      rw [if_pos rfl]
    · rw [if_neg hk] at h
      have ih := q_get_filter h hP
      split
      · unfold q_get
        rw [if_neg hk]
        exact ih
      · exact ih
theorem b_get_del : ∀ {l : b_L} {i k : Nat} {x : b_V}, b_get (b_del l i) k = some x → b_get l k = some x ∧ k ≠ i
  | [], i, k, x, h => by simp [b_get, b_del] at h
  | q :: l, i, k, x, h => by
    unfold b_del at h
    rw [List.filter_cons] at h
    split at h
    · rename_i hq
      unfold b_get at h ⊢
      split at h
      · rename_i hk
        have hk := Nat.eq_of_beq_eq_true hk
        refine ⟨h, fun e => ?_⟩
        rw [hk, e, Nat.beq_refl] at hq
        cases hq
      · exact b_get_del h
    · rename_i hq
      have ih := b_get_del (l := l) h
      refine ⟨?_, ih.2⟩
      unfold b_get
      split
      · rename_i hk
        have hk := Nat.eq_of_beq_eq_true hk
        exfalso
        apply hq
        simp only [Bool.not_eq_true', Bool.not_eq_eq_eq_not]
        rw [hk]
        cases hb : Nat.beq k i with
        | false => rfl
        | true => exact absurd (Nat.eq_of_beq_eq_true hb) ih.2
      · exact ih.1
theorem b_get_lw {l : b_L} {i k : Nat} {x : b_V} (h : b_get (b_lw l i) k = some x) : b_get l k = some x ∧ ¬ (k + 1 = i ∧ b_cat x = 2) := by
  unfold b_lw at h
  split at h
  · exact ⟨h, by omega⟩
  · split at h
    · rename_i y hy
      split at h
      · obtain ⟨h1, h2⟩ := b_get_del h
        exact ⟨h1, by omega⟩
      · rename_i hc
        refine ⟨h, ?_⟩
        rintro ⟨e1, e2⟩
        have e3 : k = _ := Nat.succ.inj e1
        rw [← e3, h] at hy
        cases hy
        rw [e2] at hc
        cases hc
    · rename_i hy
      refine ⟨h, ?_⟩
      rintro ⟨e1, e2⟩
      have e3 : k = _ := Nat.succ.inj e1
      rw [← e3, h] at hy
      cases hy
theorem bg_s1 {v : List Int} {la : b_L} {l : q_L} (h : bg_L v la l) {i : Nat} {x : b_V} {y : Value} (hx : bg_v v x y) : bg_L v (b_s1 la i x) (q_s1 l i y) := by
  intro k z hz
  unfold b_s1 b_get at hz
  unfold q_s1 q_get
  split at hz
  · rename_i hk
    have hk := Nat.eq_of_beq_eq_true hk
    cases hz
    rw [if_pos hk]
    exact ⟨y, rfl, hx⟩
  · rename_i hk
    obtain ⟨h1, h2⟩ := b_get_lw hz
    obtain ⟨h3, h4⟩ := b_get_del h1
    obtain ⟨w, h5, h6⟩ := h k z h3
    rw [if_neg (fun e => h4 e.symm)]
    refine ⟨w, q_get_filter h5 ?_, h6⟩
    rw [bg_cat h6] at h2
    simp only [Bool.and_eq_true, Bool.not_eq_true', beq_eq_false_iff_ne, ne_eq, Bool.and_eq_false_iff]
    omega
theorem bg_s2 {v : List Int} {la : b_L} {l : q_L} (h : bg_L v la l) {i : Nat} {x : b_V} {y : Value} (hx : bg_v v x y) : bg_L v (b_s2 la i x) (q_s2 l i y) := by
  intro k z hz
  unfold b_s2 b_get at hz
  unfold q_s2 q_get
  split at hz
  · rename_i hk
    have hk := Nat.eq_of_beq_eq_true hk
    cases hz
    rw [if_pos hk]
    exact ⟨y, rfl, hx⟩
  · rename_i hk
    obtain ⟨h1, h2⟩ := b_get_lw hz
    obtain ⟨h3, h4⟩ := b_get_del h1
    obtain ⟨h31, h41⟩ := b_get_del h3
    obtain ⟨w, h5, h6⟩ := h k z h31
    rw [if_neg (fun e => h41 e.symm)]
    refine ⟨w, q_get_filter h5 ?_, h6⟩
    rw [bg_cat h6] at h2
    simp only [Bool.and_eq_true, Bool.not_eq_true', beq_eq_false_iff_ne, ne_eq, Bool.and_eq_false_iff]
    omega
def b_nm (z : b_R) (pc : Nat) (l : b_L) (r : List b_V) : Option (List b_P) := some [(z.1, z.2.1, z.2.2.1, pc, l, .inl z.2.2.2 :: r)]
def b_cs (k : Nat) (qs : List (a_B × List b_T)) (pc : Nat) (l : b_L) (st : List b_V) : List b_P := qs.map (fun q => (k, q.1, q.2, pc, l, st))
def b_tos (k : Nat) (qs : List (a_B × List b_T)) (pc : Nat) (off : Int) (l : b_L) (st : List b_V) : Option (List b_P) := if 0 ≤ (pc : Int) + off then some (b_cs k qs ((pc : Int) + off).toNat l st) else none
def b_br (k : Nat) (B : a_B) (C : List b_T) (pc len : Nat) (off : Int) (c : Jvm.ClassFile.Cond) (x y : b_T) (l : b_L) (r : List b_V) : Option (List b_P) :=
  if 0 ≤ (pc : Int) + off then some (b_cs k (b_cmp B C c x y) ((pc : Int) + off).toNat l r ++ b_cs k (b_cmp B C (a_opp c) x y) (pc + len) l r) else none
def b_cat2 (x y : Option (List b_P)) : Option (List b_P) := match x, y with
  | some a, some b => some (a ++ b)
  | _, _ => none
def b_tab (k : Nat) (B : a_B) (C : List b_T) (pc : Nat) (x : b_T) (l : b_L) (r : List b_V) : Int → List Int → Option (List b_P)
  | _, [] => some []
  | j, off :: offs => b_cat2 (b_tos k (b_cmp B C .eq x (b_c j)) pc off l r) (b_tab k B C pc x l r (j + 1) offs)
def b_lkp (k : Nat) (pc : Nat) (x : b_T) (l : b_L) (r : List b_V) (d : Int) : List (a_B × List b_T) → List (Int × Int) → Option (List b_P)
  | qs, [] => b_tos k qs pc d l r
  | qs, p :: ps => b_cat2 (b_tos k (qs.flatMap (fun q => b_cmp q.1 q.2 .eq x (b_c p.1))) pc p.2 l r) (b_lkp k pc x l r d (qs.flatMap (fun q => b_cmp q.1 q.2 .ne x (b_c p.1))) ps)
/-- not 0, by its bounds or by what is known -/
def b_nz (B : a_B) (C : List b_T) (y : b_T) : Bool := b_ent B C (y.1, y.2 - 1) || b_ent B C (b_ad (b_c (-1)) (-1) y)
def b_zero (B : a_B) (x : b_T) : Bool := match b_iv B x with
  | some p => decide (p.1 = 0 ∧ p.2 = 0)
  | none => false
/-- a bitwise or; with 0 it is the other -/
def b_or (k : Nat) (B : a_B) (C : List b_T) (x y : b_T) : b_R := match b_zero B y with
  | true => (k, B, C, (false, x))
  | false => match b_zero B x with
    | true => (k, B, C, (false, y))
    | false => b_by k B C false b_orf x y
def b_within (B : a_B) (x : b_T) (lo hi : Int) : Bool := match b_iv B x with
  | some p => decide (lo ≤ p.1 ∧ p.2 ≤ hi)
  | none => false
def b_pure (k : Nat) (B : a_B) (C : List b_T) (nL pc len : Nat) (i : Instr) (l : b_L) (st : List b_V) : Option (List b_P) := match i with
  | .iconst n => some [(k, B, C, pc + len, l, .inl (false, b_c (Int32.ofInt n).toInt) :: st)]
  | .goto_w n => some [(k, B, C, pc + len, l, .inl (true, b_c (Int64.ofInt n).toInt) :: st)]
  | .iload j => (match b_get l j with | some (.inl (false, e)) => some [(k, B, C, pc + len, l, .inl (false, e) :: st)] | _ => none)
  | .lload j => (match b_get l j with | some (.inl (true, e)) => some [(k, B, C, pc + len, l, .inl (true, e) :: st)] | _ => none)
  | .aload j => (match b_get l j with | some (.inr a) => some [(k, B, C, pc + len, l, .inr a :: st)] | _ => none)
  | .istore j => (match st with | .inl (false, e) :: r => if j < nL then some [(k, B, C, pc + len, b_s1 l j (.inl (false, e)), r)] else none | _ => none)
  | .astore j => (match st with | .inr (.inl a) :: r => if j < nL then some [(k, B, C, pc + len, b_s1 l j (.inr (.inl a)), r)] else none | _ => none)
  | .lstore j => (match st with | .inl (true, e) :: r => if j + 1 < nL then some [(k, B, C, pc + len, b_s2 l j (.inl (true, e)), r)] else none | _ => none)
  | .iinc j n => (match b_get l j with | some (.inl (false, e)) => if j < nL then (match b_num k B C false (b_ad e 1 (b_c (Int32.ofInt n).toInt)) with | (k1, B1, C1, z) => some [(k1, B1, C1, pc + len, b_s1 l j (.inl z), st)]) else none | _ => none)
  | .iadd => (match st with | .inl (false, y) :: .inl (false, x) :: r => b_nm (b_num k B C false (b_ad x 1 y)) (pc + len) l r | _ => none)
  | .isub => (match st with | .inl (false, y) :: .inl (false, x) :: r => b_nm (b_num k B C false (b_ad x (-1) y)) (pc + len) l r | _ => none)
  | .imul => (match st with | .inl (false, y) :: .inl (false, x) :: r => b_nm (b_mul k B C false x y) (pc + len) l r | _ => none)
  | .iand => (match st with | .inl (false, y) :: .inl (false, x) :: r => b_nm (b_and k B C x y) (pc + len) l r | _ => none)
  | .ior => (match st with | .inl (false, y) :: .inl (false, x) :: r => b_nm (b_or k B C x y) (pc + len) l r | _ => none)
  | .ixor => (match st with | .inl (false, y) :: .inl (false, x) :: r => b_nm (b_xor k B C x y) (pc + len) l r | _ => none)
  | .ishl => (match st with | .inl (false, y) :: .inl (false, x) :: r => b_nm (b_by k B C false b_shlf x y) (pc + len) l r | _ => none)
  | .ishr => (match st with | .inl (false, y) :: .inl (false, x) :: r => b_nm (b_by k B C false b_shrf x y) (pc + len) l r | _ => none)
  | .iushr => (match st with | .inl (false, y) :: .inl (false, x) :: r => b_nm (b_top k B C false) (pc + len) l r | _ => none)
  | .ladd => (match st with | .inl (true, y) :: .inl (true, x) :: r => b_nm (b_num k B C true (b_ad x 1 y)) (pc + len) l r | _ => none)
  | .lsub => (match st with | .inl (true, y) :: .inl (true, x) :: r => b_nm (b_num k B C true (b_ad x (-1) y)) (pc + len) l r | _ => none)
  | .lmul => (match st with | .inl (true, y) :: .inl (true, x) :: r => b_nm (b_mul k B C true x y) (pc + len) l r | _ => none)
  | .land => (match st with | .inl (true, y) :: .inl (true, x) :: r => b_nm (b_top k B C true) (pc + len) l r | _ => none)
  | .lor => (match st with | .inl (true, y) :: .inl (true, x) :: r => b_nm (b_top k B C true) (pc + len) l r | _ => none)
  | .idiv => (match st with | .inl (false, y) :: .inl (false, x) :: r => if b_nz B C y = true then b_nm (b_by k B C false b_divf x y) (pc + len) l r else none | _ => none)
  | .irem => (match st with | .inl (false, y) :: .inl (false, x) :: r => if b_nz B C y = true then b_nm (b_top k B C false) (pc + len) l r else none | _ => none)
  | .ldiv => (match st with | .inl (true, y) :: .inl (true, x) :: r => if b_nz B C y = true then b_nm (b_top k B C true) (pc + len) l r else none | _ => none)
  | .lrem => (match st with | .inl (true, y) :: .inl (true, x) :: r => if b_nz B C y = true then b_nm (b_lrem k B C x y) (pc + len) l r else none | _ => none)
  | .lshl => (match st with | .inl (false, _) :: .inl (true, _) :: r => b_nm (b_top k B C true) (pc + len) l r | _ => none)
  | .lshr => (match st with | .inl (false, _) :: .inl (true, _) :: r => b_nm (b_top k B C true) (pc + len) l r | _ => none)
  | .i2l => (match st with | .inl (false, x) :: r => some [(k, B, C, pc + len, l, .inl (true, x) :: r)] | _ => none)
  | .l2i => (match st with | .inl (true, x) :: r => if b_within B x (-2147483648) 2147483647 = true then some [(k, B, C, pc + len, l, .inl (false, x) :: r)] else b_nm (b_top k B C false) (pc + len) l r | _ => none)
  | .i2b => (match st with | .inl (false, x) :: r => if b_within B x (-128) 127 = true then some [(k, B, C, pc + len, l, .inl (false, x) :: r)] else b_nm (b_new k B C false (-128) 127) (pc + len) l r | _ => none)
  | .i2s => (match st with | .inl (false, x) :: r => if b_within B x (-32768) 32767 = true then some [(k, B, C, pc + len, l, .inl (false, x) :: r)] else b_nm (b_new k B C false (-32768) 32767) (pc + len) l r | _ => none)
  | .ineg => (match st with | .inl (false, x) :: r => b_nm (b_num k B C false (b_sc (-1) x)) (pc + len) l r | _ => none)
  | .lcmp => (match st with | .inl (true, y) :: .inl (true, x) :: r => some (b_cs k (b_cmp B C .lt x y) (pc + len) l (.inl (false, b_c (-1)) :: r) ++ (b_cs k (b_cmp B C .eq x y) (pc + len) l (.inl (false, b_c 0) :: r) ++ b_cs k (b_cmp B C .gt x y) (pc + len) l (.inl (false, b_c 1) :: r))) | _ => none)
  | .dup => (match st with | v :: r => if b_cat v = 1 then some [(k, B, C, pc + len, l, v :: v :: r)] else none | _ => none)
  | .pop => (match st with | v :: r => if b_cat v = 1 then some [(k, B, C, pc + len, l, r)] else none | _ => none)
  | .dup2 => (match st with | a :: r => if b_cat a = 2 then some [(k, B, C, pc + len, l, a :: a :: r)] else (match r with | b :: r => if b_cat a = 1 ∧ b_cat b = 1 then some [(k, B, C, pc + len, l, a :: b :: a :: b :: r)] else none | _ => none) | _ => none)
  | .pop2 => (match st with | a :: r => if b_cat a = 2 then some [(k, B, C, pc + len, l, r)] else none | _ => none)
  | .ifCond c off => (match st with | .inl (false, x) :: r => b_br k B C pc len off c x (b_c 0) l r | _ => none)
  | .if_icmp c off => (match st with | .inl (false, y) :: .inl (false, x) :: r => b_br k B C pc len off c x y l r | _ => none)
  | .goto off => b_tos k [(B, C)] pc off l st
  | .tableswitch d lo hi offs => (match st with | .inl (false, x) :: r => if (offs.size : Int) = hi - lo + 1 then b_cat2 (b_tab k B C pc x l r lo offs.toList) (b_cat2 (b_tos k (b_cmp B C .lt x (b_c lo)) pc d l r) (b_tos k (b_cmp B C .gt x (b_c hi)) pc d l r)) else none | _ => none)
  | .lookupswitch d ps => (match st with | .inl (false, x) :: r => if (ps.toList.zip (ps.toList.drop 1)).all (fun (a, next) => a.1 < next.1) = true then b_lkp k pc x l r d [(B, C)] ps.toList else none | _ => none)
  | _ => none
def bg_PR (v : List Int) (ps : List b_P) (res : Option (Nat × q_L × List Value)) : Prop := ∃ p ∈ ps, ∃ (t : List Int) (l1 : q_L) (st1 : List Value), res = some (p.2.2.2.1, l1, st1) ∧ (v ++ t).length = p.1 ∧ g_B (v ++ t) p.2.1 ∧ bg_C (v ++ t) p.2.2.1 ∧ bg_L (v ++ t) p.2.2.2.2.1 l1 ∧ bg_s (v ++ t) p.2.2.2.2.2 st1
theorem bg_P0 {v : List Int} {k : Nat} {B : a_B} {C : List b_T} {pc : Nat} {la : b_L} {sa : List b_V} {ps : List b_P} {l : q_L} {st : List Value} {res : Option (Nat × q_L × List Value)} (hm : (k, B, C, pc, la, sa) ∈ ps) (hr : res = some (pc, l, st)) (hk : v.length = k) (hB : g_B v B) (hC : bg_C v C) (hl : bg_L v la l) (hs : bg_s v sa st) : bg_PR v ps res :=
  ⟨_, hm, [], l, st, hr, by simpa using hk, by simpa using hB, by simpa using hC, by simpa using hl, by simpa using hs⟩
theorem bg_P1 {v : List Int} {z : b_R} {lg : Bool} {w : Int} (hR : bg_R v z lg w) {y : Value} (hy : match lg with | false => ∃ c : Int32, y = .int c ∧ c.toInt = w | true => ∃ c : Int64, y = .long c ∧ c.toInt = w) {pc : Nat} {la : b_L} {sa : List b_V} {l : q_L} {st : List Value} {res : Option (Nat × q_L × List Value)} (hr : res = some (pc, l, y :: st)) (hl : bg_L v la l) (hs : bg_s v sa st) : bg_PR v [(z.1, z.2.1, z.2.2.1, pc, la, .inl z.2.2.2 :: sa)] res := by
  obtain ⟨t, h1, h2, h3, h4, h5⟩ := hR
  refine ⟨_, List.mem_singleton.mpr rfl, t, l, _, hr, h1, h2, h3, bg_L_ext hl, ?_, bg_s_ext hs⟩
  obtain ⟨k1, B1, C1, lg1, e⟩ := z
  simp only at h4 h5
  subst h4
  cases lg1 with
  | false =>
    obtain ⟨c1, rfl, rfl⟩ := hy
    exact ⟨c1, rfl, h5⟩
  | true =>
    obtain ⟨c1, rfl, rfl⟩ := hy
    exact ⟨c1, rfl, h5⟩
theorem bg_PRl {v : List Int} {ps qs : List b_P} {res : Option (Nat × q_L × List Value)} (h : bg_PR v ps res) : bg_PR v (ps ++ qs) res := by
  obtain ⟨p, hp, h⟩ := h
  exact ⟨p, List.mem_append_left _ hp, h⟩
theorem bg_PRr {v : List Int} {ps qs : List b_P} {res : Option (Nat × q_L × List Value)} (h : bg_PR v qs res) : bg_PR v (ps ++ qs) res := by
  obtain ⟨p, hp, h⟩ := h
  exact ⟨p, List.mem_append_right _ hp, h⟩
theorem bg_cat2 {x y : Option (List b_P)} {ps : List b_P} (h : b_cat2 x y = some ps) : ∃ a b, x = some a ∧ y = some b ∧ ps = a ++ b := by
  unfold b_cat2 at h
  split at h
  · cases h
    exact ⟨_, _, rfl, rfl, rfl⟩
  · cases h
theorem bg_cs {v : List Int} {k : Nat} {qs : List (a_B × List b_T)} {q : a_B × List b_T} {pc : Nat} {la : b_L} {sa : List b_V} {l : q_L} {st : List Value} {res : Option (Nat × q_L × List Value)} (hq : q ∈ qs) (hr : res = some (pc, l, st)) (hk : v.length = k) (hB : g_B v q.1) (hC : bg_C v q.2) (hl : bg_L v la l) (hs : bg_s v sa st) : bg_PR v (b_cs k qs pc la sa) res :=
  bg_P0 (List.mem_map.mpr ⟨q, hq, rfl⟩) hr hk hB hC hl hs
theorem bg_tos {v : List Int} {k : Nat} {qs : List (a_B × List b_T)} {q : a_B × List b_T} {pc : Nat} {off : Int} {la : b_L} {sa : List b_V} {ps : List b_P} {l : q_L} {st : List Value} (h : b_tos k qs pc off la sa = some ps) (hq : q ∈ qs) (hk : v.length = k) (hB : g_B v q.1) (hC : bg_C v q.2) (hl : bg_L v la l) (hs : bg_s v sa st) : bg_PR v ps (q_to pc off l st) := by
  unfold b_tos at h
  unfold q_to
  split at h
  · rename_i hc
    cases h
    exact bg_cs hq (by rw [if_pos hc]) hk hB hC hl hs
  · cases h
theorem bg_br {v : List Int} {k : Nat} {B : a_B} {C : List b_T} {pc len : Nat} {off : Int} {c : Jvm.ClassFile.Cond} {x y : b_T} {z w : Int32} {la : b_L} {sa : List b_V} {ps : List b_P} {l : q_L} {st : List Value} (h : b_br k B C pc len off c x y la sa = some ps) (hk : v.length = k) (hB : g_B v B) (hC : bg_C v C) (hx : b_is v x z.toInt) (hy : b_is v y w.toInt) (hl : bg_L v la l) (hs : bg_s v sa st) : bg_PR v ps (q_br pc len off (q_c c z w) l st) := by
  unfold b_br at h
  split at h
  rotate_left
  · cases h
  rename_i hpc
  cases h
  unfold q_br
  rw [if_pos hpc]
  cases hq : q_c c z w with
  | true =>
    obtain ⟨q, a1, a2, a3⟩ := b_cmp_ok hB hC hx hy ((g_c32 c z w).mp hq)
    exact bg_PRl (bg_cs a1 rfl hk a2 a3 hl hs)
  | false =>
    obtain ⟨q, a1, a2, a3⟩ := b_cmp_ok (c := a_opp c) hB hC hx hy (g_c_opp (fun hc => by rw [(g_c32 c z w).mpr hc] at hq; cases hq))
    exact bg_PRr (bg_cs a1 rfl hk a2 a3 hl hs)
theorem bg_tab {v : List Int} {k : Nat} {B : a_B} {C : List b_T} {pc : Nat} {x : b_T} {z : Int32} {la : b_L} {sa : List b_V} {l : q_L} {st : List Value} (hk : v.length = k) (hB : g_B v B) (hC : bg_C v C) (hx : b_is v x z.toInt) (hl : bg_L v la l) (hs : bg_s v sa st) :
    ∀ (offs : List Int) (j : Int) (ps : List b_P), b_tab k B C pc x la sa j offs = some ps → ∀ (n : Nat) (off : Int), offs[n]? = some off → z.toInt = j + n → bg_PR v ps (q_to pc off l st)
  | [], j, ps, h, n, off, hn, hz => by simp at hn
  | o :: offs, j, ps, h, 0, off, hn, hz => by
    simp at hn
    subst hn
    unfold b_tab at h
    obtain ⟨p1, p2, e1, e2, rfl⟩ := bg_cat2 h
    obtain ⟨q, a1, a2, a3⟩ := b_cmp_ok (c := .eq) hB hC hx (b_is_c j) (by show z.toInt = j; omega)
    exact bg_PRl (bg_tos e1 a1 hk a2 a3 hl hs)
  | o :: offs, j, ps, h, n + 1, off, hn, hz => by
    simp at hn
    unfold b_tab at h
    obtain ⟨p1, p2, e1, e2, rfl⟩ := bg_cat2 h
    exact bg_PRr (bg_tab hk hB hC hx hl hs offs (j + 1) p2 e2 n off hn (by omega))
theorem bg_lkp {v : List Int} {k : Nat} {pc : Nat} {x : b_T} {z : Int32} {la : b_L} {sa : List b_V} {l : q_L} {st : List Value} {d : Int} (hk : v.length = k) (hx : b_is v x z.toInt) (hl : bg_L v la l) (hs : bg_s v sa st) :
    ∀ (ps : List (Int × Int)) (qs : List (a_B × List b_T)) (rs : List b_P), (∃ q ∈ qs, g_B v q.1 ∧ bg_C v q.2) → b_lkp k pc x la sa d qs ps = some rs → bg_PR v rs (q_to pc (Op.lookupswitch.offset ps d z.toInt) l st)
  | [], qs, rs, hq, h => by
    obtain ⟨q, a1, a2, a3⟩ := hq
    unfold b_lkp at h
    exact bg_tos h a1 hk a2 a3 hl hs
  | p :: ps, qs, rs, hq, h => by
    obtain ⟨q, a1, a2, a3⟩ := hq
    unfold b_lkp at h
    obtain ⟨p1, p2, e1, e2, rfl⟩ := bg_cat2 h
    obtain ⟨a, off⟩ := p
    rw [Op.lookupswitch.offset_cons]
    by_cases hz : z.toInt = a
    · rw [if_pos (by first | exact hz | exact hz.symm | simpa using hz | simpa using hz.symm)]
      obtain ⟨q1, c1, c2, c3⟩ := b_cmp_ok (c := .eq) a2 a3 hx (b_is_c a) hz
      exact bg_PRl (bg_tos e1 (List.mem_flatMap.mpr ⟨q, a1, c1⟩) hk c2 c3 hl hs)
    · rw [if_neg (by first | exact hz | exact fun q => hz q.symm | simpa using hz | simpa using fun q => hz q.symm)]
      obtain ⟨q1, c1, c2, c3⟩ := b_cmp_ok (c := .ne) a2 a3 hx (b_is_c a) hz
      exact bg_PRr (bg_lkp hk hx hl hs ps _ p2 ⟨q1, List.mem_flatMap.mpr ⟨q, a1, c1⟩, c2, c3⟩ e2)
theorem b_nz_ok {v : List Int} {B : a_B} {C : List b_T} (hB : g_B v B) (hC : bg_C v C) {y : b_T} {w : Int} (h : b_nz B C y = true) (hy : b_is v y w) : w ≠ 0 := by
  unfold b_nz at h
  rw [Bool.or_eq_true] at h
  rcases h with h | h
  · have := b_ent_ok hB hC h (b_is_m1 hy)
    omega
  · have := b_ent_ok hB hC h (b_is_ad (k := -1) (b_is_c (-1)) hy)
    omega
theorem b_within_ok {v : List Int} {B : a_B} (hB : g_B v B) {x : b_T} {lo hi z : Int} (h : b_within B x lo hi = true) (hx : b_is v x z) : lo ≤ z ∧ z ≤ hi := by
  unfold b_within at h
  split at h
  · rename_i p hp
    have := b_iv_ok hB hp hx
    simp only [decide_eq_true_eq] at h
    omega
  · cases h
theorem b_zero_ok {v : List Int} {B : a_B} (hB : g_B v B) {x : b_T} {z : Int32} (h : b_zero B x = true) (hx : b_is v x z.toInt) : z = 0 := by
  unfold b_zero at h
  split at h
  · rename_i p hp
    have := b_iv_ok hB hp hx
    simp only [decide_eq_true_eq] at h
    exact Int32.toInt_inj.mp (by rw [Int32.toInt_zero]; omega)
  · cases h
theorem b_or_ok {v : List Int} {k : Nat} {B : a_B} {C : List b_T} (hk : v.length = k) (hB : g_B v B) (hC : bg_C v C) {x y : b_T} {a b : Int32} (hx : b_is v x a.toInt) (hy : b_is v y b.toInt) : bg_R v (b_or k B C x y) false (a ||| b).toInt := by
  unfold b_or
  split
  · rename_i h
    have := b_zero_ok hB h hy
    subst this
    rw [Int32.or_zero]
    exact bg_R0 hk hB hC hx
  · split
    · rename_i h
      have := b_zero_ok hB h hx
      subst this
      rw [Int32.zero_or]
      exact bg_R0 hk hB hC hy
    · exact b_or32_ok hk hB hC hx hy
set_option maxHeartbeats 4000000 in
theorem bg_pure {v : List Int} {k : Nat} {B : a_B} {C : List b_T} {nL pc len : Nat} {i : Instr} {la : b_L} {sa : List b_V} {ps : List b_P} {l : q_L} {st : List Value} (h : b_pure k B C nL pc len i la sa = some ps) (hk : v.length = k) (hB : g_B v B) (hC : bg_C v C) (hl : bg_L v la l) (hs : bg_s v sa st) : bg_PR v ps (q_pure nL pc len i l st) := by
  unfold b_pure at h
  split at h
  · -- iconst
    cases h
    exact bg_P0 (List.mem_singleton.mpr rfl) rfl hk hB hC hl ⟨⟨_, rfl, b_is_c _⟩, hs⟩
  · -- a long
    cases h
    exact bg_P0 (List.mem_singleton.mpr rfl) rfl hk hB hC hl ⟨⟨_, rfl, b_is_c _⟩, hs⟩
  · -- iload
    split at h
    rotate_left
    · cases h
    rename_i hg
    cases h
    obtain ⟨y, h1, h2⟩ := hl _ _ hg
    obtain ⟨z, rfl, h3⟩ := h2
    exact bg_P0 (st := .int z :: st) (List.mem_singleton.mpr rfl) (by simp only [q_pure, h1]) hk hB hC hl ⟨⟨z, rfl, h3⟩, hs⟩
  · -- lload
    split at h
    rotate_left
    · cases h
    rename_i hg
    cases h
    obtain ⟨y, h1, h2⟩ := hl _ _ hg
    obtain ⟨z, rfl, h3⟩ := h2
    exact bg_P0 (st := .long z :: st) (List.mem_singleton.mpr rfl) (by simp only [q_pure, h1]) hk hB hC hl ⟨⟨z, rfl, h3⟩, hs⟩
  · -- aload
    split at h
    rotate_left
    · cases h
    rename_i a hg
    cases h
    obtain ⟨y, h1, h2⟩ := hl _ _ hg
    cases a with
    | inl a =>
      have h2 : y = .ref a := h2
      subst h2
      exact bg_P0 (st := .ref a :: st) (List.mem_singleton.mpr rfl) (by simp only [q_pure, h1]) hk hB hC hl ⟨rfl, hs⟩
    | inr a =>
      have h2 : y = .retAddr a := h2
      subst h2
      exact bg_P0 (st := .retAddr a :: st) (List.mem_singleton.mpr rfl) (by simp only [q_pure, h1]) hk hB hC hl ⟨rfl, hs⟩
  · -- istore
    split at h
    rotate_left
    · cases h
    split at h
    rotate_left
    · cases h
    rename_i hn
    cases h
    obtain ⟨y, ys, rfl, hy, hr⟩ := g_ca hs
    have hy0 := hy
    obtain ⟨z, rfl, h3⟩ := hy
    exact bg_P0 (l := q_s1 l _ (.int z)) (st := ys) (List.mem_singleton.mpr rfl) (by simp only [q_pure, if_pos hn]) hk hB hC (bg_s1 hl hy0) hr
  · -- astore
    split at h
    rotate_left
    · cases h
    split at h
    rotate_left
    · cases h
    rename_i hn
    cases h
    obtain ⟨y, ys, rfl, hy, hr⟩ := g_ca hs
    have hy0 := hy
    have hy : y = _ := hy
    subst hy
    exact bg_P0 (l := q_s1 l _ (.ref _)) (st := ys) (List.mem_singleton.mpr rfl) (by simp only [q_pure, if_pos hn]) hk hB hC (bg_s1 hl hy0) hr
  · -- lstore
    split at h
    rotate_left
    · cases h
    split at h
    rotate_left
    · cases h
    rename_i hn
    cases h
    obtain ⟨y, ys, rfl, hy, hr⟩ := g_ca hs
    have hy0 := hy
    obtain ⟨z, rfl, h3⟩ := hy
    exact bg_P0 (l := q_s2 l _ (.long z)) (st := ys) (List.mem_singleton.mpr rfl) (by simp only [q_pure, if_pos hn]) hk hB hC (bg_s2 hl hy0) hr
  · -- iinc
    rename_i jj nn
    split at h
    rotate_left
    · cases h
    rename_i e hg
    split at h
    rotate_left
    · cases h
    rename_i hn
    obtain ⟨y, h1, h2⟩ := hl _ _ hg
    obtain ⟨z, rfl, h3⟩ := h2
    have hR := b_add32_ok hk hB hC h3 (b_is_c (Int32.ofInt nn).toInt)
    split at h
    rename_i k1 B1 C1 zz hz
    cases h
    rw [hz] at hR
    obtain ⟨t, g1, g2, g3, g4, g5⟩ := hR
    refine ⟨_, List.mem_singleton.mpr rfl, t, q_s1 l jj (.int (z + Int32.ofInt nn)), st, by simp only [q_pure, h1, if_pos hn], g1, g2, g3, bg_s1 (bg_L_ext hl) ?_, bg_s_ext hs⟩
    obtain ⟨lg, ee⟩ := zz
    simp only at g4 g5
    subst g4
    exact ⟨_, rfl, g5⟩
  · -- iadd
    split at h
    rotate_left
    · cases h
    obtain ⟨y, ys, rfl, hy, hs1⟩ := g_ca hs
    replace hs := hs1
    obtain ⟨x, xs, rfl, hx, hs1⟩ := g_ca hs
    replace hs := hs1
    obtain ⟨w, rfl, hy⟩ := hy
    obtain ⟨z, rfl, hx⟩ := hx
    cases h
    exact bg_P1 (lg := false) (b_add32_ok hk hB hC hx hy) ⟨_, rfl, rfl⟩ rfl hl hs
  · -- isub
    split at h
    rotate_left
    · cases h
    obtain ⟨y, ys, rfl, hy, hs1⟩ := g_ca hs
    replace hs := hs1
    obtain ⟨x, xs, rfl, hx, hs1⟩ := g_ca hs
    replace hs := hs1
    obtain ⟨w, rfl, hy⟩ := hy
    obtain ⟨z, rfl, hx⟩ := hx
    cases h
    exact bg_P1 (lg := false) (b_sub32_ok hk hB hC hx hy) ⟨_, rfl, rfl⟩ rfl hl hs
  · -- imul
    split at h
    rotate_left
    · cases h
    obtain ⟨y, ys, rfl, hy, hs1⟩ := g_ca hs
    replace hs := hs1
    obtain ⟨x, xs, rfl, hx, hs1⟩ := g_ca hs
    replace hs := hs1
    obtain ⟨w, rfl, hy⟩ := hy
    obtain ⟨z, rfl, hx⟩ := hx
    cases h
    exact bg_P1 (lg := false) (b_mul32_ok hk hB hC hx hy) ⟨_, rfl, rfl⟩ rfl hl hs
  · -- iand
    split at h
    rotate_left
    · cases h
    obtain ⟨y, ys, rfl, hy, hs1⟩ := g_ca hs
    replace hs := hs1
    obtain ⟨x, xs, rfl, hx, hs1⟩ := g_ca hs
    replace hs := hs1
    obtain ⟨w, rfl, hy⟩ := hy
    obtain ⟨z, rfl, hx⟩ := hx
    cases h
    exact bg_P1 (lg := false) (b_and_ok hk hB hC hx hy) ⟨_, rfl, rfl⟩ rfl hl hs
  · -- ior
    split at h
    rotate_left
    · cases h
    obtain ⟨y, ys, rfl, hy, hs1⟩ := g_ca hs
    replace hs := hs1
    obtain ⟨x, xs, rfl, hx, hs1⟩ := g_ca hs
    replace hs := hs1
    obtain ⟨w, rfl, hy⟩ := hy
    obtain ⟨z, rfl, hx⟩ := hx
    cases h
    exact bg_P1 (lg := false) (b_or_ok hk hB hC hx hy) ⟨_, rfl, rfl⟩ rfl hl hs
  · -- ixor
    split at h
    rotate_left
    · cases h
    obtain ⟨y, ys, rfl, hy, hs1⟩ := g_ca hs
    replace hs := hs1
    obtain ⟨x, xs, rfl, hx, hs1⟩ := g_ca hs
    replace hs := hs1
    obtain ⟨w, rfl, hy⟩ := hy
    obtain ⟨z, rfl, hx⟩ := hx
    cases h
    exact bg_P1 (lg := false) (b_xor_ok hk hB hC hx hy) ⟨_, rfl, rfl⟩ rfl hl hs
  · -- ishl
    split at h
    rotate_left
    · cases h
    obtain ⟨y, ys, rfl, hy, hs1⟩ := g_ca hs
    replace hs := hs1
    obtain ⟨x, xs, rfl, hx, hs1⟩ := g_ca hs
    replace hs := hs1
    obtain ⟨w, rfl, hy⟩ := hy
    obtain ⟨z, rfl, hx⟩ := hx
    cases h
    exact bg_P1 (lg := false) (b_shl32_ok hk hB hC hx hy) ⟨_, rfl, rfl⟩ rfl hl hs
  · -- ishr
    split at h
    rotate_left
    · cases h
    obtain ⟨y, ys, rfl, hy, hs1⟩ := g_ca hs
    replace hs := hs1
    obtain ⟨x, xs, rfl, hx, hs1⟩ := g_ca hs
    replace hs := hs1
    obtain ⟨w, rfl, hy⟩ := hy
    obtain ⟨z, rfl, hx⟩ := hx
    cases h
    exact bg_P1 (lg := false) (b_shr32_ok hk hB hC hx hy) ⟨_, rfl, rfl⟩ rfl hl hs
  · -- iushr
    split at h
    rotate_left
    · cases h
    obtain ⟨y, ys, rfl, hy, hs1⟩ := g_ca hs
    replace hs := hs1
    obtain ⟨x, xs, rfl, hx, hs1⟩ := g_ca hs
    replace hs := hs1
    obtain ⟨w, rfl, hy⟩ := hy
    obtain ⟨z, rfl, hx⟩ := hx
    cases h
    exact bg_P1 (lg := false) (b_top_ok hk hB hC (g_in32 _)) ⟨_, rfl, rfl⟩ rfl hl hs
  · -- ladd
    split at h
    rotate_left
    · cases h
    obtain ⟨y, ys, rfl, hy, hs1⟩ := g_ca hs
    replace hs := hs1
    obtain ⟨x, xs, rfl, hx, hs1⟩ := g_ca hs
    replace hs := hs1
    obtain ⟨w, rfl, hy⟩ := hy
    obtain ⟨z, rfl, hx⟩ := hx
    cases h
    exact bg_P1 (lg := true) (b_add64_ok hk hB hC hx hy) ⟨_, rfl, rfl⟩ rfl hl hs
  · -- lsub
    split at h
    rotate_left
    · cases h
    obtain ⟨y, ys, rfl, hy, hs1⟩ := g_ca hs
    replace hs := hs1
    obtain ⟨x, xs, rfl, hx, hs1⟩ := g_ca hs
    replace hs := hs1
    obtain ⟨w, rfl, hy⟩ := hy
    obtain ⟨z, rfl, hx⟩ := hx
    cases h
    exact bg_P1 (lg := true) (b_sub64_ok hk hB hC hx hy) ⟨_, rfl, rfl⟩ rfl hl hs
  · -- lmul
    split at h
    rotate_left
    · cases h
    obtain ⟨y, ys, rfl, hy, hs1⟩ := g_ca hs
    replace hs := hs1
    obtain ⟨x, xs, rfl, hx, hs1⟩ := g_ca hs
    replace hs := hs1
    obtain ⟨w, rfl, hy⟩ := hy
    obtain ⟨z, rfl, hx⟩ := hx
    cases h
    exact bg_P1 (lg := true) (b_mul64_ok hk hB hC hx hy) ⟨_, rfl, rfl⟩ rfl hl hs
  · -- land
    split at h
    rotate_left
    · cases h
    obtain ⟨y, ys, rfl, hy, hs1⟩ := g_ca hs
    replace hs := hs1
    obtain ⟨x, xs, rfl, hx, hs1⟩ := g_ca hs
    replace hs := hs1
    obtain ⟨w, rfl, hy⟩ := hy
    obtain ⟨z, rfl, hx⟩ := hx
    cases h
    exact bg_P1 (lg := true) (b_top_ok hk hB hC (g_in64 _)) ⟨_, rfl, rfl⟩ rfl hl hs
  · -- lor
    split at h
    rotate_left
    · cases h
    obtain ⟨y, ys, rfl, hy, hs1⟩ := g_ca hs
    replace hs := hs1
    obtain ⟨x, xs, rfl, hx, hs1⟩ := g_ca hs
    replace hs := hs1
    obtain ⟨w, rfl, hy⟩ := hy
    obtain ⟨z, rfl, hx⟩ := hx
    cases h
    exact bg_P1 (lg := true) (b_top_ok hk hB hC (g_in64 _)) ⟨_, rfl, rfl⟩ rfl hl hs
  · -- idiv
    split at h
    rotate_left
    · cases h
    split at h
    rotate_left
    · cases h
    rename_i hnz
    obtain ⟨y, ys, rfl, hy, hs1⟩ := g_ca hs
    replace hs := hs1
    obtain ⟨x, xs, rfl, hx, hs1⟩ := g_ca hs
    replace hs := hs1
    obtain ⟨w, rfl, hy⟩ := hy
    obtain ⟨z, rfl, hx⟩ := hx
    have hw0 := b_nz_ok hB hC hnz hy
    have hw : ¬ w = 0 := fun e => hw0 (by rw [e]; rfl)
    cases h
    exact bg_P1 (lg := false) (b_div32_ok hk hB hC hx hy) ⟨_, rfl, rfl⟩ (by simp only [q_pure, if_neg hw]) hl hs
  · -- irem
    split at h
    rotate_left
    · cases h
    split at h
    rotate_left
    · cases h
    rename_i hnz
    obtain ⟨y, ys, rfl, hy, hs1⟩ := g_ca hs
    replace hs := hs1
    obtain ⟨x, xs, rfl, hx, hs1⟩ := g_ca hs
    replace hs := hs1
    obtain ⟨w, rfl, hy⟩ := hy
    obtain ⟨z, rfl, hx⟩ := hx
    have hw0 := b_nz_ok hB hC hnz hy
    have hw : ¬ w = 0 := fun e => hw0 (by rw [e]; rfl)
    cases h
    exact bg_P1 (lg := false) (b_top_ok hk hB hC (g_in32 (z - z / w * w))) ⟨_, rfl, rfl⟩ (by simp only [q_pure, if_neg hw]) hl hs
  · -- ldiv
    split at h
    rotate_left
    · cases h
    split at h
    rotate_left
    · cases h
    rename_i hnz
    obtain ⟨y, ys, rfl, hy, hs1⟩ := g_ca hs
    replace hs := hs1
    obtain ⟨x, xs, rfl, hx, hs1⟩ := g_ca hs
    replace hs := hs1
    obtain ⟨w, rfl, hy⟩ := hy
    obtain ⟨z, rfl, hx⟩ := hx
    have hw0 := b_nz_ok hB hC hnz hy
    have hw : ¬ w = 0 := fun e => hw0 (by rw [e]; rfl)
    cases h
    exact bg_P1 (lg := true) (b_top_ok hk hB hC (g_in64 (z / w))) ⟨_, rfl, rfl⟩ (by simp only [q_pure, if_neg hw]) hl hs
  · -- lrem
    split at h
    rotate_left
    · cases h
    split at h
    rotate_left
    · cases h
    rename_i hnz
    obtain ⟨y, ys, rfl, hy, hs1⟩ := g_ca hs
    replace hs := hs1
    obtain ⟨x, xs, rfl, hx, hs1⟩ := g_ca hs
    replace hs := hs1
    obtain ⟨w, rfl, hy⟩ := hy
    obtain ⟨z, rfl, hx⟩ := hx
    have hw0 := b_nz_ok hB hC hnz hy
    have hw : ¬ w = 0 := fun e => hw0 (by rw [e]; rfl)
    cases h
    exact bg_P1 (lg := true) (b_lrem_ok hk hB hC hx hy hw0) ⟨_, rfl, rfl⟩ (by simp only [q_pure, if_neg hw]) hl hs
  · -- lshl
    split at h
    rotate_left
    · cases h
    obtain ⟨y, ys, rfl, hy, hs1⟩ := g_ca hs
    replace hs := hs1
    obtain ⟨x, xs, rfl, hx, hs1⟩ := g_ca hs
    replace hs := hs1
    obtain ⟨w, rfl, hy⟩ := hy
    obtain ⟨z, rfl, hx⟩ := hx
    cases h
    exact bg_P1 (lg := true) (b_top_ok hk hB hC (g_in64 _)) ⟨_, rfl, rfl⟩ rfl hl hs
  · -- lshr
    split at h
    rotate_left
    · cases h
    obtain ⟨y, ys, rfl, hy, hs1⟩ := g_ca hs
    replace hs := hs1
    obtain ⟨x, xs, rfl, hx, hs1⟩ := g_ca hs
    replace hs := hs1
    obtain ⟨w, rfl, hy⟩ := hy
    obtain ⟨z, rfl, hx⟩ := hx
    cases h
    exact bg_P1 (lg := true) (b_top_ok hk hB hC (g_in64 _)) ⟨_, rfl, rfl⟩ rfl hl hs
  · -- i2l
    split at h
    rotate_left
    · cases h
    obtain ⟨y, ys, rfl, hy, hs1⟩ := g_ca hs
    replace hs := hs1
    obtain ⟨w, rfl, hy⟩ := hy
    cases h
    exact bg_P0 (List.mem_singleton.mpr rfl) rfl hk hB hC hl ⟨⟨w.toInt64, rfl, by rw [Int32.toInt_toInt64]; exact hy⟩, hs⟩
  · -- l2i
    split at h
    rotate_left
    · cases h
    obtain ⟨y, ys, rfl, hy, hs1⟩ := g_ca hs
    replace hs := hs1
    obtain ⟨w, rfl, hy⟩ := hy
    split at h
    · rename_i hc
      cases h
      have hc := b_within_ok hB hc hy
      exact bg_P0 (List.mem_singleton.mpr rfl) rfl hk hB hC hl ⟨⟨_, rfl, by rw [g_l2i (by omega) (by omega)]; exact hy⟩, hs⟩
    · cases h
      exact bg_P1 (lg := false) (b_top_ok hk hB hC (g_in32 _)) ⟨_, rfl, rfl⟩ rfl hl hs
  · -- i2b
    split at h
    rotate_left
    · cases h
    obtain ⟨y, ys, rfl, hy, hs1⟩ := g_ca hs
    replace hs := hs1
    obtain ⟨w, rfl, hy⟩ := hy
    split at h
    · rename_i hc
      cases h
      have hc := b_within_ok hB hc hy
      exact bg_P0 (List.mem_singleton.mpr rfl) rfl hk hB hC hl ⟨⟨_, rfl, by rw [g_s8 (by omega) (by omega)]; exact hy⟩, hs⟩
    · cases h
      exact bg_P1 (lg := false) (b_new_ok hk hB hC (g_b8 w).1 (g_b8 w).2) ⟨_, rfl, rfl⟩ rfl hl hs
  · -- i2s
    split at h
    rotate_left
    · cases h
    obtain ⟨y, ys, rfl, hy, hs1⟩ := g_ca hs
    replace hs := hs1
    obtain ⟨w, rfl, hy⟩ := hy
    split at h
    · rename_i hc
      cases h
      have hc := b_within_ok hB hc hy
      exact bg_P0 (List.mem_singleton.mpr rfl) rfl hk hB hC hl ⟨⟨_, rfl, by rw [g_s16 (by omega) (by omega)]; exact hy⟩, hs⟩
    · cases h
      exact bg_P1 (lg := false) (b_new_ok hk hB hC (g_b16 w).1 (g_b16 w).2) ⟨_, rfl, rfl⟩ rfl hl hs
  · -- ineg
    split at h
    rotate_left
    · cases h
    obtain ⟨y, ys, rfl, hy, hs1⟩ := g_ca hs
    replace hs := hs1
    obtain ⟨w, rfl, hy⟩ := hy
    cases h
    exact bg_P1 (lg := false) (b_neg32_ok hk hB hC hy) ⟨_, rfl, rfl⟩ rfl hl hs
  · -- lcmp
    split at h
    rotate_left
    · cases h
    obtain ⟨y, ys, rfl, hy, hs1⟩ := g_ca hs
    replace hs := hs1
    obtain ⟨x, xs, rfl, hx, hs1⟩ := g_ca hs
    replace hs := hs1
    obtain ⟨w, rfl, hy⟩ := hy
    obtain ⟨z, rfl, hx⟩ := hx
    cases h
    by_cases h1 : w < z
    · have e1 : lg_cmp z w = 1 := by simp [lg_cmp, h1]
      obtain ⟨q, a1, a2, a3⟩ := b_cmp_ok (c := .gt) hB hC hx hy (Int64.lt_iff_toInt_lt.mp h1)
      exact bg_PRr (bg_PRr (bg_cs a1 rfl hk a2 a3 hl ⟨⟨_, rfl, by rw [e1]; exact b_is_c _⟩, hs⟩))
    · by_cases h2 : z = w
      · have e1 : lg_cmp z w = 0 := by simp [lg_cmp, h2]
        obtain ⟨q, a1, a2, a3⟩ := b_cmp_ok (c := .eq) hB hC hx hy (by show z.toInt = w.toInt; rw [h2])
        exact bg_PRr (bg_PRl (bg_cs a1 rfl hk a2 a3 hl ⟨⟨_, rfl, by rw [e1]; exact b_is_c _⟩, hs⟩))
      · have e1 : lg_cmp z w = -1 := by simp [lg_cmp, h1, h2]
        obtain ⟨q, a1, a2, a3⟩ := b_cmp_ok (c := .lt) hB hC hx hy (by
          show z.toInt < w.toInt
          have n1 : ¬ w.toInt < z.toInt := fun q => h1 (Int64.lt_iff_toInt_lt.mpr q)
          have n2 : ¬ z.toInt = w.toInt := fun q => h2 (Int64.toInt_inj.mp q)
          omega)
        exact bg_PRl (bg_cs a1 rfl hk a2 a3 hl ⟨⟨_, rfl, by rw [e1]; exact b_is_c _⟩, hs⟩)
  · -- dup
    split at h
    rotate_left
    · cases h
    split at h
    rotate_left
    · cases h
    rename_i hc
    cases h
    obtain ⟨y, ys, rfl, hy, hs1⟩ := g_ca hs
    replace hs := hs1
    exact bg_P0 (st := y :: y :: ys) (List.mem_singleton.mpr rfl) (by simp only [q_pure, if_pos ((bg_cat hy).symm.trans hc)]) hk hB hC hl ⟨hy, hy, hs⟩
  · -- pop
    split at h
    rotate_left
    · cases h
    split at h
    rotate_left
    · cases h
    rename_i hc
    cases h
    obtain ⟨y, ys, rfl, hy, hs1⟩ := g_ca hs
    replace hs := hs1
    exact bg_P0 (st := ys) (List.mem_singleton.mpr rfl) (by simp only [q_pure, if_pos ((bg_cat hy).symm.trans hc)]) hk hB hC hl hs
  · -- dup2
    split at h
    rotate_left
    · cases h
    obtain ⟨y, ys, rfl, hy, hs1⟩ := g_ca hs
    replace hs := hs1
    have c1 := bg_cat hy
    split at h
    · rename_i hc
      cases h
      exact bg_P0 (st := y :: y :: ys) (List.mem_singleton.mpr rfl) (by simp only [q_pure]; rw [if_pos (by omega)]) hk hB hC hl ⟨hy, hy, hs⟩
    · rename_i hc0
      split at h
      rotate_left
      · cases h
      split at h
      rotate_left
      · cases h
      rename_i hc
      cases h
      obtain ⟨x, xs, rfl, hx, hs1⟩ := g_ca hs
      replace hs := hs1
      have c2 := bg_cat hx
      exact bg_P0 (st := y :: x :: y :: x :: xs) (List.mem_singleton.mpr rfl) (by simp only [q_pure]; rw [if_neg (by omega), if_pos ⟨by omega, by omega⟩]) hk hB hC hl ⟨hy, hx, hy, hx, hs⟩
  · -- pop2
    split at h
    rotate_left
    · cases h
    split at h
    rotate_left
    · cases h
    rename_i hc
    cases h
    obtain ⟨y, ys, rfl, hy, hs1⟩ := g_ca hs
    replace hs := hs1
    exact bg_P0 (st := ys) (List.mem_singleton.mpr rfl) (by simp only [q_pure, if_pos ((bg_cat hy).symm.trans hc)]) hk hB hC hl hs
  · -- ifCond
    split at h
    rotate_left
    · cases h
    obtain ⟨y, ys, rfl, hy, hs1⟩ := g_ca hs
    replace hs := hs1
    obtain ⟨w, rfl, hy⟩ := hy
    exact bg_br h hk hB hC hy (w := 0) (b_is_c _) hl hs
  · -- if_icmp
    split at h
    rotate_left
    · cases h
    obtain ⟨y, ys, rfl, hy, hs1⟩ := g_ca hs
    replace hs := hs1
    obtain ⟨x, xs, rfl, hx, hs1⟩ := g_ca hs
    replace hs := hs1
    obtain ⟨w, rfl, hy⟩ := hy
    obtain ⟨z, rfl, hx⟩ := hx
    exact bg_br h hk hB hC hx hy hl hs
  · -- goto
    exact bg_tos h (List.mem_singleton.mpr rfl) hk hB hC hl hs
  · -- tableswitch
    rename_i d lo hi offs
    split at h
    rotate_left
    · cases h
    split at h
    rotate_left
    · cases h
    rename_i hsz
    obtain ⟨y, ys, rfl, hy, hs1⟩ := g_ca hs
    replace hs := hs1
    obtain ⟨w, rfl, hy⟩ := hy
    obtain ⟨p1, p2, e1, e2, rfl⟩ := bg_cat2 h
    obtain ⟨p3, p4, e3, e4, rfl⟩ := bg_cat2 e2
    simp only [q_pure]
    by_cases h1 : w.toInt < lo
    · rw [if_pos (Or.inl h1)]
      obtain ⟨q, a1, a2, a3⟩ := b_cmp_ok (c := .lt) hB hC hy (b_is_c lo) h1
      exact bg_PRr (bg_PRl (bg_tos e3 a1 hk a2 a3 hl hs))
    · by_cases h2 : hi < w.toInt
      · rw [if_pos (Or.inr h2)]
        obtain ⟨q, a1, a2, a3⟩ := b_cmp_ok (c := .gt) hB hC hy (b_is_c hi) h2
        exact bg_PRr (bg_PRr (bg_tos e4 a1 hk a2 a3 hl hs))
      · rw [if_neg (by omega)]
        have hlt : (w.toInt - lo).toNat < offs.toList.length := by
          rw [Array.length_toList]
          omega
        have hget : offs[(w.toInt - lo).toNat]? = some (offs.toList[(w.toInt - lo).toNat]) := by
          rw [← Array.getElem?_toList, List.getElem?_eq_getElem hlt]
        rw [hget]
        exact bg_PRl (bg_tab hk hB hC hy hl hs offs.toList lo p1 e1 _ _ (List.getElem?_eq_getElem hlt) (by omega))
  · -- lookupswitch
    split at h
    rotate_left
    · cases h
    split at h
    rotate_left
    · cases h
    rename_i hc
    obtain ⟨y, ys, rfl, hy, hs1⟩ := g_ca hs
    replace hs := hs1
    obtain ⟨w, rfl, hy⟩ := hy
    simp only [q_pure]
    rw [if_pos hc]
    exact bg_lkp hk hy hl hs _ _ _ ⟨_, List.mem_singleton.mpr rfl, hB, hC⟩ h
  · cases h
end
section
/-! THE CHECKER'S MEMORY: a fixed shape with bounds (I), what is known of single places, tokens for what is known by hand -/
abbrev b_AI : Type := (List (Nat × Int × Int) × Int × Int) ⊕ (Unit ⊕ List Nat)
abbrev b_FI : Type := (Bool × Int × Int) ⊕ Nat
abbrev b_I : Type := (Nat × Nat × b_AI) ⊕ (Nat × List b_FI)
abbrev b_W : Type := List (Nat × Nat × Nat)
abbrev b_O : Type := Nat × b_T × b_N
abbrev b_Q : Type := Nat × List b_T
abbrev b_E : Type := Nat × a_B × List b_T × List b_O × List b_Q
abbrev b_X : Type := b_E × List b_V
def bi_f (x : b_FI) (y : Value) : Prop := match x with
  | .inl (false, lo, hi) => ∃ z : Int32, y = .int z ∧ lo ≤ z.toInt ∧ z.toInt ≤ hi
  | .inl (true, lo, hi) => ∃ z : Int64, y = .long z ∧ lo ≤ z.toInt ∧ z.toInt ≤ hi
  | .inr k => y = .ref k
def bi_c (x : b_I) (y : q_E) : Prop := match x with
  | .inl (t, n, .inl (ex, lo, hi)) => ∃ f : Nat → Int32, y = .inl (t, n, .inl f) ∧ (∀ j, j < n → lo ≤ (f j).toInt ∧ (f j).toInt ≤ hi) ∧ (∀ q ∈ ex, q.2.1 ≤ (f q.1).toInt ∧ (f q.1).toInt ≤ q.2.2) ∧ ∀ j, n ≤ j → f j = 0
  | .inl (t, n, .inr (.inl _)) => ∃ f : Nat → Int64, y = .inl (t, n, .inr (.inl f)) ∧ ∀ j, n ≤ j → f j = 0
  | .inl (t, n, .inr (.inr rs)) => ∃ f : Nat → Option Nat, y = .inl (t, n, .inr (.inr f)) ∧ rs.length = n ∧ ∀ j, f j = rs[j]?
  | .inr (ci, fs) => ∃ vs : List Value, y = .inr (ci, vs) ∧ g_2 bi_f fs vs
abbrev bi_M (I : List b_I) (m : q_M) : Prop := g_2 bi_c I m
/-- what stands at a place: a field, an element -/
def q_at (m : q_M) (c j : Nat) : Value := match m[c]? with
  | some (.inr (_, vs)) => vs.getD j .null
  | some (.inl (_, _, .inl f)) => .int (f j)
  | some (.inl (_, _, .inr (.inl f))) => .long (f j)
  | _ => .null
def b_plW (W : b_W) (c j : Nat) : Prop := ∃ w ∈ W, w.1 = c ∧ w.2.1 ≤ j ∧ j ≤ w.2.2
/-- nothing has changed but in W -/
def q_same (W : b_W) (m m1 : q_M) : Prop := ∀ c j, ¬ b_plW W c j → q_at m1 c j = q_at m c j
theorem q_same.rf {W : b_W} {m : q_M} : q_same W m m := fun _ _ _ => rfl
theorem q_same.tr {W : b_W} {m m1 m2 : q_M} (h1 : q_same W m m1) (h2 : q_same W m1 m2) : q_same W m m2 := fun c j h => (h2 c j h).trans (h1 c j h)
theorem q_same.mono {W V : b_W} {m m1 : q_M} (h : ∀ c j, b_plW W c j → b_plW V c j) (h1 : q_same W m m1) : q_same V m m1 := fun c j hv => h1 c j (fun hw => hv (h c j hw))
theorem q_at_obj {m : q_M} {c ci j : Nat} {vs : List Value} (h : m[c]? = some (.inr (ci, vs))) : q_at m c j = vs.getD j .null := by
  unfold q_at
  rw [h]
theorem q_at_int {m : q_M} {c t n j : Nat} {f : Nat → Int32} (h : m[c]? = some (.inl (t, n, .inl f))) : q_at m c j = .int (f j) := by
  unfold q_at
  rw [h]
theorem q_at_long {m : q_M} {c t n j : Nat} {f : Nat → Int64} (h : m[c]? = some (.inl (t, n, .inr (.inl f)))) : q_at m c j = .long (f j) := by
  unfold q_at
  rw [h]
theorem q_at_ne {m : q_M} {c d j : Nat} {x : q_E} (h : c ≠ d) : q_at (m.set c x) d j = q_at m d j := by
  unfold q_at
  rw [List.getElem?_set_ne h]
theorem q_get_set {m : q_M} {c : Nat} {x y : q_E} (h : m[c]? = some y) : (m.set c x)[c]? = some x := by
  have hl := (List.getElem?_eq_some_iff.mp h).1
  simp [hl]
def b_mo (mo : List b_O) (c : Nat) (t : b_T) : Option b_N := match mo with
  | [] => none
  | o :: mo => match Nat.beq o.1 c with
    | true => if o.2.1 = t then some o.2.2 else b_mo mo c t
    | false => b_mo mo c t
/-- may the place be between lo and hi -/
def b_ovl (B : a_B) (t : b_T) (lo hi : Nat) : Bool := match b_iv B t with
  | some p => decide (p.1 ≤ (hi : Int) ∧ (lo : Int) ≤ p.2)
  | none => true
def b_drp (B : a_B) (mo : List b_O) (c lo hi : Nat) : List b_O := mo.filter (fun o => !(Nat.beq o.1 c && b_ovl B o.2.1 lo hi))
def b_apart (fw : b_W) (c lo hi : Nat) : Bool := fw.all (fun w => !(Nat.beq w.1 c && decide (w.2.1 ≤ hi ∧ lo ≤ w.2.2)))
def b_dtk (fp : Nat → b_W) (tk : List b_Q) (c lo hi : Nat) : List b_Q := tk.filter (fun t => b_apart (fp t.1) c lo hi)
def b_inW (W : b_W) (c lo hi : Nat) : Bool := W.any (fun w => Nat.beq w.1 c && decide (w.2.1 ≤ lo ∧ hi ≤ w.2.2))
def b_wr0 (fp : Nat → b_W) (E : b_E) (c lo hi : Nat) : b_E := (E.1, E.2.1, E.2.2.1, b_drp E.2.1 E.2.2.2.1 c lo hi, b_dtk fp E.2.2.2.2 c lo hi)
/-- tokens that a write gives, by rules proved by hand -/
abbrev b_Sto : Type := b_E → Nat → b_T → b_N → List b_Q
/-- may two places be the same -/
def b_meq (B : a_B) (t x : b_T) : Bool := match b_iv B (b_ad t (-1) x) with
  | some p => decide (p.1 ≤ 0 ∧ 0 ≤ p.2)
  | none => true
def b_drx (B : a_B) (mo : List b_O) (c : Nat) (x : b_T) : List b_O := mo.filter (fun o => !(Nat.beq o.1 c && b_meq B o.2.1 x))
def b_wr (fp : Nat → b_W) (sto : b_Sto) (E : b_E) (c lo hi : Nat) (t : b_T) (v : b_N) : b_E := (E.1, E.2.1, E.2.2.1, (c, t, v) :: b_drx E.2.1 E.2.2.2.1 c t, sto E c t v ++ b_dtk fp E.2.2.2.2 c lo hi)
def b_inb (E : b_E) (e : b_T) (lo hi : Int) : Bool := b_ent E.2.1 E.2.2.1 (e.1, e.2 - lo) && b_ent E.2.1 E.2.2.1 (b_ad (b_c hi) (-1) e)
def b_wb (fp : Nat → b_W) (sto : b_Sto) (E : b_E) (t c lo hi : Nat) (x e : b_T) : b_E := match E.2.2.2.2 with
  | [] => b_wr0 fp E c lo hi
  | _ => if t = 3 ∧ b_inb E e 0 1 = true then b_wr fp sto E c lo hi x (false, e) else b_wr0 fp E c lo hi
/-- the value was read at a place of another row, so much further on, that has such bounds -/
def b_cpx (E : b_E) (I : List b_I) (x e : b_T) (q : Nat × Int × Int) : Bool := E.2.2.2.1.any (fun o => decide (o.2.2 = (false, e)) && (match I[o.1]? with
  | some (.inl (_, _, .inl (ex2, _, _))) => (match b_iv E.2.1 (b_ad o.2.1 (-1) x) with
    | some p => ex2.any (fun q2 => decide (p.1 = p.2 ∧ (q2.1 : Int) = (q.1 : Int) + p.1 ∧ q.2.1 ≤ q2.2.1 ∧ q2.2.2 ≤ q.2.2))
    | none => false)
  | _ => false))
def b_rd (E : b_E) (c : Nat) (t : b_T) (lg : Bool) (lo hi : Int) (r : List b_V) : b_X := match b_mo E.2.2.2.1 c t with
  | some v => (E, .inl v :: r)
  | none => match b_new E.1 E.2.1 E.2.2.1 lg lo hi with
    | (k, B, C, v) => ((k, B, C, (c, t, v) :: E.2.2.2.1, E.2.2.2.2), .inl v :: r)
def b_idx (E : b_E) (x : b_T) (n : Nat) : Bool := b_ent E.2.1 E.2.2.1 x && b_ent E.2.1 E.2.2.1 (b_ad (b_c ((n : Int) - 1)) (-1) x)
def b_ex (ex : List (Nat × Int × Int)) (j : Nat) : Option (Int × Int) := match ex with
  | [] => none
  | q :: ex => match Nat.beq q.1 j with
    | true => some q.2
    | false => b_ex ex j
def b_bnd (B : a_B) (ex : List (Nat × Int × Int)) (lo hi : Int) (x : b_T) : Int × Int := match ex with
  | [] => (lo, hi)
  | _ => (match b_iv B x with
    | some p => if p.1 = p.2 then (match b_ex ex p.1.toNat with | some r => r | none => (lo, hi)) else (lo, hi)
    | none => (lo, hi))
/-- the places that an index may mean -/
def b_rg (B : a_B) (x : b_T) (n : Nat) : Nat × Nat := match b_iv B x with
  | some p => (p.1.toNat, (a_mn p.2 ((n : Int) - 1)).toNat)
  | none => (0, n)
def b_fit (ty : FieldType) (lg : Bool) : Bool := match ty, lg with
  | .int, false => true
  | .long, true => true
  | _, _ => false
def b_refs (E : b_E) (x : b_T) (r : List b_V) : Int → List Nat → List b_X
  | _, [] => []
  | j, c :: cs => (b_cmp E.2.1 E.2.2.1 .eq x (b_c j)).map (fun q => ((E.1, q.1, q.2, E.2.2.2), .inr (.inl c) :: r)) ++ b_refs E x r (j + 1) cs
def b_ac (v : List b_V) : Nat := (v.map b_cat).sum
def b_cpy (fp : Nat → b_W) (W : b_W) (E : b_E) (I : List b_I) (r : List b_V) (w dp sp : b_T) (d j : Nat) : Option (List b_X) := match I[j]?, I[d]? with
  | some (.inl (t0, n0, .inl (_, l0, h0))), some (.inl (t1, n1, .inl ([], l1, h1))) => if t0 = 0 ∧ t1 = 0 ∧ l1 ≤ l0 ∧ h0 ≤ h1 ∧ 0 < n1 ∧ b_ent E.2.1 E.2.2.1 w = true ∧ b_ent E.2.1 E.2.2.1 dp = true ∧ b_ent E.2.1 E.2.2.1 sp = true ∧ b_ent E.2.1 E.2.2.1 (b_ad (b_ad (b_c n0) (-1) sp) (-1) w) = true ∧ b_ent E.2.1 E.2.2.1 (b_ad (b_ad (b_c n1) (-1) dp) (-1) w) = true ∧ b_inW W d 0 (n1 - 1) = true then some [(b_wr0 fp E d 0 (n1 - 1), r)] else none
  | some (.inl (t0, n0, .inr (.inl _))), some (.inl (t1, n1, .inr (.inl _))) => if t0 = 1 ∧ t1 = 1 ∧ 0 < n1 ∧ b_ent E.2.1 E.2.2.1 w = true ∧ b_ent E.2.1 E.2.2.1 dp = true ∧ b_ent E.2.1 E.2.2.1 sp = true ∧ b_ent E.2.1 E.2.2.1 (b_ad (b_ad (b_c n0) (-1) sp) (-1) w) = true ∧ b_ent E.2.1 E.2.2.1 (b_ad (b_ad (b_c n1) (-1) dp) (-1) w) = true ∧ b_inW W d 0 (n1 - 1) = true then some [(b_wr0 fp E d 0 (n1 - 1), r)] else none
  | _, _ => none
/-- bounds of a long that is read, by rules proved by hand -/
abbrev b_Rdb : Type := (b_E → Nat → b_T → Option (Int × Int)) × (b_E → Nat → b_T → Option (Int × Int))
def b_rdl (rdb : b_Rdb) (E : b_E) (a : Nat) (x : b_T) : Int × Int := match E.2.2.2.2 with
  | [] => (-9223372036854775808, 9223372036854775807)
  | _ => match rdb.1 E a x with
    | some q => q
    | none => (-9223372036854775808, 9223372036854775807)
def b_rdi (rdb : b_Rdb) (E : b_E) (a : Nat) (x : b_T) (p : Int × Int) : Int × Int := match E.2.2.2.2 with
  | [] => p
  | _ => match rdb.2 E a x with
    | some q => q
    | none => p
def b_mem (G : q_G) (I : List b_I) (W : b_W) (fp : Nat → b_W) (sto : b_Sto) (rdb : b_Rdb) (fr lo : Nat) (i : Instr) (E : b_E) (st : List b_V) : Option (List b_X) := match i with
  | .getfield n => (match st with | .inr (.inl a) :: r => (match I[a]? with | some (.inr (ci, fs)) => if ci = n / 64 then (match fs[n % 64]? with | some (.inr c) => some [(E, .inr (.inl c) :: r)] | some (.inl (lg, l, h)) => some [b_rd E a (b_c ((n % 64 : Nat) : Int)) lg l h r] | none => none) else none | _ => none) | _ => none)
  | .putfield n => (match st with | .inl (lg, e) :: .inr (.inl a) :: r => (match I[a]? with | some (.inr (ci, fs)) => (match fs[n % 64]? with | some (.inl (lg1, l, h)) => if ci = n / 64 ∧ lg = lg1 ∧ b_fit (q_gY G ci (n % 64)) lg = true ∧ b_inb E e l h = true ∧ b_inW W a (n % 64) (n % 64) = true then some [(b_wr fp sto E a (n % 64) (n % 64) (b_c ((n % 64 : Nat) : Int)) (lg, e), r)] else none | _ => none) | _ => none) | _ => none)
  | .iaload => (match st with | .inl (false, x) :: .inr (.inl a) :: r => (match I[a]? with | some (.inl (t, n, .inl (ex, l, h))) => if t = 0 ∧ b_idx E x n = true then some [b_rd E a x false (b_rdi rdb E a x (b_bnd E.2.1 ex l h x)).1 (b_rdi rdb E a x (b_bnd E.2.1 ex l h x)).2 r] else none | _ => none) | _ => none)
  | .baload => (match st with | .inl (false, x) :: .inr (.inl a) :: r => (match I[a]? with | some (.inl (t, n, .inl (ex, l, h))) => if (t = 2 ∨ t = 3) ∧ b_idx E x n = true then some [b_rd E a x false (b_bnd E.2.1 ex l h x).1 (b_bnd E.2.1 ex l h x).2 r] else none | _ => none) | _ => none)
  | .laload => (match st with | .inl (false, x) :: .inr (.inl a) :: r => (match I[a]? with | some (.inl (t, n, .inr (.inl _))) => if t = 1 ∧ b_idx E x n = true then some [b_rd E a x true (b_rdl rdb E a x).1 (b_rdl rdb E a x).2 r] else none | _ => none) | _ => none)
  | .aaload => (match st with | .inl (false, x) :: .inr (.inl a) :: r => (match I[a]? with | some (.inl (t, n, .inr (.inr rs))) => if 4 ≤ t ∧ t < (q_gA G).length ∧ b_idx E x n = true then some (b_refs E x r 0 rs) else none | _ => none) | _ => none)
  | .iastore => (match st with | .inl (false, e) :: .inl (false, x) :: .inr (.inl a) :: r => (match I[a]? with | some (.inl (t, n, .inl (ex, l, h))) => if t = 0 ∧ b_idx E x n = true ∧ b_inb E e l h = true ∧ ex.all (fun q => !(decide ((b_rg E.2.1 x n).1 ≤ q.1 ∧ q.1 ≤ (b_rg E.2.1 x n).2)) || (b_inb E e q.2.1 q.2.2 || b_cpx E I x e q)) = true ∧ b_inW W a (b_rg E.2.1 x n).1 (b_rg E.2.1 x n).2 = true then some [(b_wr fp sto E a (b_rg E.2.1 x n).1 (b_rg E.2.1 x n).2 x (false, e), r)] else none | _ => none) | _ => none)
  | .bastore => (match st with | .inl (false, e) :: .inl (false, x) :: .inr (.inl a) :: r => (match I[a]? with | some (.inl (t, n, .inl ([], l, h))) => if ((t = 2 ∧ l ≤ -128 ∧ 127 ≤ h) ∨ (t = 3 ∧ l ≤ 0 ∧ 1 ≤ h)) ∧ b_idx E x n = true ∧ b_inW W a (b_rg E.2.1 x n).1 (b_rg E.2.1 x n).2 = true then some [(b_wb fp sto E t a (b_rg E.2.1 x n).1 (b_rg E.2.1 x n).2 x e, r)] else none | _ => none) | _ => none)
  | .lastore => (match st with | .inl (true, e) :: .inl (false, x) :: .inr (.inl a) :: r => (match I[a]? with | some (.inl (t, n, .inr (.inl _))) => if t = 1 ∧ b_idx E x n = true ∧ b_inW W a (b_rg E.2.1 x n).1 (b_rg E.2.1 x n).2 = true then some [(b_wr fp sto E a (b_rg E.2.1 x n).1 (b_rg E.2.1 x n).2 x (true, e), r)] else none | _ => none) | _ => none)
  | .arraylength => (match st with | .inr (.inl a) :: r => (match I[a]? with | some (.inl (t, n, _)) => if t < (q_gA G).length ∧ n < 2147483648 then some [(E, .inl (false, b_c n) :: r)] else none | _ => none) | _ => none)
  | .invokedynamic n => if n = 1 then (match st with | .inl (false, w) :: .inl (false, dp) :: .inr (.inl d) :: .inl (false, sp) :: .inr (.inl j) :: r => if 1 ≤ fr ∧ b_ac r + 18 ≤ lo then b_cpy fp W E I r w dp sp d j else none | _ => none)
      else if n = 2 then (match st with | .inr (.inr (a + 1)) :: r => (match (q_gS G)[a]? with | some x => if 5 ≤ fr ∧ b_ac r ≤ 8 ∧ 120 ≤ lo ∧ x.2.2.2.length < 2147483648 then some [(E, .inl (false, b_c x.2.2.2.length) :: r)] else none | none => none) | _ => none)
      else if n = 3 then (match st with | .inl (false, j) :: .inr (.inr (a + 1)) :: r => (match (q_gS G)[a]? with | some x => if 5 ≤ fr ∧ b_ac r ≤ 8 ∧ 120 ≤ lo ∧ b_idx E j x.2.2.2.length = true then (match b_new E.1 E.2.1 E.2.2.1 false 0 255 with | (k, B, C, v) => some [((k, B, C, E.2.2.2), .inl v :: r)]) else none | none => none) | _ => none)
      else none
  | _ => none
/-- what they mean -/
def bg_O (v : List Int) (m : q_M) (o : b_O) : Prop := ∃ j : Nat, b_is v o.2.1 j ∧ bg_n v o.2.2 (q_at m o.1 j)
def bg_Q (F : Nat → List Int → q_M → Prop) (v : List Int) (m : q_M) (t : b_Q) : Prop := ∃ zs : List Int, g_2 (b_is v) t.2 zs ∧ F t.1 zs m
/-- a token holds as long as its own places stay -/
def bg_F (I : List b_I) (fp : Nat → b_W) (F : Nat → List Int → q_M → Prop) : Prop := ∀ id zs m m1, bi_M I m → bi_M I m1 → (∀ c j, b_plW (fp id) c j → q_at m1 c j = q_at m c j) → F id zs m → F id zs m1
def bg_E (F : Nat → List Int → q_M → Prop) (v : List Int) (E : b_E) (m : q_M) : Prop := v.length = E.1 ∧ g_B v E.2.1 ∧ bg_C v E.2.2.1 ∧ (∀ o ∈ E.2.2.2.1, bg_O v m o) ∧ (∀ t ∈ E.2.2.2.2, bg_Q F v m t)
def bg_X (I : List b_I) (W : b_W) (F : Nat → List Int → q_M → Prop) (v : List Int) (m : q_M) (xs : List b_X) (res : Option (List Value × q_M)) : Prop := ∃ x ∈ xs, ∃ (t : List Int) (st1 : List Value) (m1 : q_M), res = some (st1, m1) ∧ bg_E F (v ++ t) x.1 m1 ∧ bg_s (v ++ t) x.2 st1 ∧ bi_M I m1 ∧ q_same W m m1
theorem bg_O_ext {v t : List Int} {m : q_M} {o : b_O} (h : bg_O v m o) : bg_O (v ++ t) m o := by
  obtain ⟨j, h1, h2⟩ := h
  exact ⟨j, b_is_ext h1, bg_n_ext h2⟩
theorem g_2_map {α β : Type} {R S : α → β → Prop} (h : ∀ a b, R a b → S a b) {as : List α} {bs : List β} (h1 : g_2 R as bs) : g_2 S as bs := g_2_mono h h1
theorem bg_Q_ext {F : Nat → List Int → q_M → Prop} {v t : List Int} {m : q_M} {o : b_Q} (h : bg_Q F v m o) : bg_Q F (v ++ t) m o := by
  obtain ⟨j, h1, h2⟩ := h
  exact ⟨j, g_2_mono (fun _ _ => b_is_ext) h1, h2⟩
theorem b_mo_ok : ∀ {mo : List b_O} {c : Nat} {t : b_T} {v : b_N}, b_mo mo c t = some v → (c, t, v) ∈ mo
  | [], c, t, v, h => by simp [b_mo] at h
  | o :: mo, c, t, v, h => by
    unfold b_mo at h
    split at h
    · rename_i hb
      have hb := Nat.eq_of_beq_eq_true hb
      split at h
      · rename_i ht
        cases h
        subst hb
        subst ht
        exact List.mem_cons_self
      · exact List.mem_cons_of_mem _ (b_mo_ok h)
    · exact List.mem_cons_of_mem _ (b_mo_ok h)
theorem b_beq_ne {a b : Nat} (h : a ≠ b) : Nat.beq a b = false := by
  cases hb : Nat.beq a b with
  | false => rfl
  | true => exact absurd (Nat.eq_of_beq_eq_true hb) h
/-- a write: what is known of other places stays -/
theorem bg_drp {v : List Int} {B : a_B} (hB : g_B v B) {m m1 : q_M} {c lo hi : Nat} (hm : ∀ d j, ¬ (d = c ∧ lo ≤ j ∧ j ≤ hi) → q_at m1 d j = q_at m d j) {mo : List b_O} (h : ∀ o ∈ mo, bg_O v m o) : ∀ o ∈ b_drp B mo c lo hi, bg_O v m1 o := by
  intro o ho
  obtain ⟨h1, h2⟩ := List.mem_filter.mp ho
  obtain ⟨j, h3, h4⟩ := h o h1
  refine ⟨j, h3, ?_⟩
  rw [hm]
  · exact h4
  · rintro ⟨e1, e2, e3⟩
    rw [e1, Nat.beq_refl, Bool.true_and, Bool.not_eq_true'] at h2
    unfold b_ovl at h2
    split at h2
    · rename_i p hp
      have := b_iv_ok hB hp h3
      simp only [decide_eq_false_iff_not] at h2
      omega
    · cases h2
theorem bg_drx {v : List Int} {B : a_B} (hB : g_B v B) {m m1 : q_M} {c k : Nat} {x : b_T} (hx : b_is v x (k : Int)) (hm : ∀ d j, ¬ (d = c ∧ j = k) → q_at m1 d j = q_at m d j) {mo : List b_O} (h : ∀ o ∈ mo, bg_O v m o) : ∀ o ∈ b_drx B mo c x, bg_O v m1 o := by
  intro o ho
  obtain ⟨h1, h2⟩ := List.mem_filter.mp ho
  obtain ⟨j, h3, h4⟩ := h o h1
  refine ⟨j, h3, ?_⟩
  rw [hm]
  · exact h4
  · rintro ⟨e1, e2⟩
    rw [e1, Nat.beq_refl, Bool.true_and, Bool.not_eq_true'] at h2
    unfold b_meq at h2
    split at h2
    · rename_i p hp
      have := b_iv_ok hB hp (b_is_ad (k := -1) h3 hx)
      simp only [decide_eq_false_iff_not] at h2
      omega
    · cases h2
theorem bg_dtk {I : List b_I} {F : Nat → List Int → q_M → Prop} {fp : Nat → b_W} (hF : bg_F I fp F) {v : List Int} {m m1 : q_M} (hM : bi_M I m) (hM1 : bi_M I m1) {c lo hi : Nat} (hm : ∀ d j, ¬ (d = c ∧ lo ≤ j ∧ j ≤ hi) → q_at m1 d j = q_at m d j) {tk : List b_Q} (h : ∀ t ∈ tk, bg_Q F v m t) : ∀ t ∈ b_dtk fp tk c lo hi, bg_Q F v m1 t := by
  intro t ht
  obtain ⟨h1, h2⟩ := List.mem_filter.mp ht
  obtain ⟨zs, h3, h4⟩ := h t h1
  refine ⟨zs, h3, hF _ _ _ _ hM hM1 ?_ h4⟩
  rintro d j ⟨w, hw, e1, e2, e3⟩
  refine hm d j ?_
  rintro ⟨e4, e5, e6⟩
  have h5 := List.all_eq_true.mp h2 w hw
  rw [e1, e4, Nat.beq_refl, Bool.true_and, Bool.not_eq_true', decide_eq_false_iff_not] at h5
  omega
theorem b_inW_ok {W : b_W} {c lo hi j : Nat} (h : b_inW W c lo hi = true) (h1 : lo ≤ j) (h2 : j ≤ hi) : b_plW W c j := by
  obtain ⟨w, hw, h3⟩ := List.any_eq_true.mp h
  rw [Bool.and_eq_true, decide_eq_true_eq] at h3
  exact ⟨w, hw, Nat.eq_of_beq_eq_true h3.1, by omega, by omega⟩
theorem b_same_of {W : b_W} {c lo hi : Nat} {m m1 : q_M} (h : b_inW W c lo hi = true) (hm : ∀ d j, ¬ (d = c ∧ lo ≤ j ∧ j ≤ hi) → q_at m1 d j = q_at m d j) : q_same W m m1 := by
  intro d j hn
  refine hm d j ?_
  rintro ⟨rfl, e2, e3⟩
  exact hn (b_inW_ok h e2 e3)
section BMEM
variable {F : Nat → List Int → q_M → Prop} {fp : Nat → b_W} {v : List Int} {E : b_E} {m : q_M} {I : List b_I} {W : b_W}
theorem b_wr0_ok (hF : bg_F I fp F) {c lo hi : Nat} {m1 : q_M} (hE : bg_E F v E m) (hM : bi_M I m) (hM1 : bi_M I m1) (hm : ∀ d j, ¬ (d = c ∧ lo ≤ j ∧ j ≤ hi) → q_at m1 d j = q_at m d j) : bg_E F v (b_wr0 fp E c lo hi) m1 :=
  ⟨hE.1, hE.2.1, hE.2.2.1, bg_drp hE.2.1 hm hE.2.2.2.1, bg_dtk hF hM hM1 hm hE.2.2.2.2⟩
/-- the rules for reads are right -/
def bg_Rdb (I : List b_I) (F : Nat → List Int → q_M → Prop) (rdb : b_Rdb) : Prop := (∀ (v : List Int) (E : b_E) (m : q_M) (a : Nat) (x : b_T) (j : Nat) (z : Int64) (q : Int × Int), bg_E F v E m → bi_M I m → b_is v x (j : Int) → q_at m a j = .long z → rdb.1 E a x = some q → q.1 ≤ z.toInt ∧ z.toInt ≤ q.2)
  ∧ ∀ (v : List Int) (E : b_E) (m : q_M) (a : Nat) (x : b_T) (j : Nat) (z : Int32) (q : Int × Int), bg_E F v E m → bi_M I m → b_is v x (j : Int) → q_at m a j = .int z → rdb.2 E a x = some q → q.1 ≤ z.toInt ∧ z.toInt ≤ q.2
/-- the rules for writes are right -/
def bg_Sto (I : List b_I) (F : Nat → List Int → q_M → Prop) (sto : b_Sto) : Prop := ∀ (v : List Int) (E : b_E) (m m1 : q_M) (c : Nat) (x : b_T) (e : b_N) (j : Nat), bg_E F v E m → bi_M I m → bi_M I m1 → b_is v x (j : Int) → (∀ d k, ¬ (d = c ∧ k = j) → q_at m1 d k = q_at m d k) → bg_n v e (q_at m1 c j) → ∀ t ∈ sto E c x e, bg_Q F v m1 t
theorem b_wr_ok (hF : bg_F I fp F) {sto : b_Sto} (hS : bg_Sto I F sto) {c lo hi : Nat} {t : b_T} {x : b_N} {m1 : q_M} {j : Nat} (hE : bg_E F v E m) (hM : bi_M I m) (hM1 : bi_M I m1) (hm1 : ∀ d k, ¬ (d = c ∧ k = j) → q_at m1 d k = q_at m d k) (hlo : lo ≤ j) (hhi : j ≤ hi) (hj : b_is v t j) (hx : bg_n v x (q_at m1 c j)) : bg_E F v (b_wr fp sto E c lo hi t x) m1 := by
  have hm : ∀ d k, ¬ (d = c ∧ lo ≤ k ∧ k ≤ hi) → q_at m1 d k = q_at m d k := fun d k hd => hm1 d k (fun ⟨e1, e2⟩ => hd ⟨e1, by omega, by omega⟩)
  refine ⟨hE.1, hE.2.1, hE.2.2.1, ?_, ?_⟩
  · intro o ho
    rcases List.mem_cons.mp ho with rfl | ho
    · exact ⟨j, hj, hx⟩
    · exact bg_drx hE.2.1 hj hm1 hE.2.2.2.1 o ho
  · intro u hu
    rcases List.mem_append.mp hu with hu | hu
    · exact hS v E m m1 c t x j hE hM hM1 hj hm1 hx u hu
    · exact bg_dtk hF hM hM1 hm hE.2.2.2.2 u hu
theorem b_cpx_ok (hE : bg_E F v E m) (hM : bi_M I m) {x e : b_T} {q : Nat × Int × Int} {z : Int32} (h : b_cpx E I x e q = true) (hx : b_is v x (q.1 : Int)) (he : b_is v e z.toInt) : q.2.1 ≤ z.toInt ∧ z.toInt ≤ q.2.2 := by
  obtain ⟨o, ho, h1⟩ := List.any_eq_true.mp h
  rw [Bool.and_eq_true, decide_eq_true_eq] at h1
  obtain ⟨h1, h2⟩ := h1
  split at h2
  rotate_left
  · cases h2
  rename_i t n ex2 l2 u2 hI
  split at h2
  rotate_left
  · cases h2
  rename_i p hp
  obtain ⟨q2, hq2, h3⟩ := List.any_eq_true.mp h2
  rw [decide_eq_true_eq] at h3
  obtain ⟨y, hm, f, rfl, -, hf, -⟩ := g_2_get hM hI
  obtain ⟨j, j1, j2⟩ := hE.2.2.2.1 o ho
  have hd := b_iv_ok hE.2.1 hp (b_is_ad (k := -1) j1 hx)
  have ej : j = q2.1 := by omega
  rw [h1, q_at_int hm] at j2
  obtain ⟨w, w1, w2⟩ := j2
  cases w1
  have := b_is_uniq w2 he
  have := hf q2 hq2
  rw [ej] at *
  omega
theorem b_inb_ok (hE : bg_E F v E m) {e : b_T} {lo hi z : Int} (h : b_inb E e lo hi = true) (hz : b_is v e z) : lo ≤ z ∧ z ≤ hi := by
  unfold b_inb at h
  rw [Bool.and_eq_true] at h
  have h1 := b_ent_ok hE.2.1 hE.2.2.1 h.1 (z := z - lo) (by
    obtain ⟨s, e1, rfl⟩ := hz
    exact ⟨s, e1, by show _ = s + (e.2 - lo); omega⟩)
  have h2 := b_ent_ok hE.2.1 hE.2.2.1 h.2 (b_is_ad (k := -1) (b_is_c hi) hz)
  omega
theorem b_idx_ok (hE : bg_E F v E m) {x : b_T} {n : Nat} {j : Int32} (h : b_idx E x n = true) (hj : b_is v x j.toInt) : q_in j n = true ∧ (j.toNatClampNeg : Int) = j.toInt ∧ j.toNatClampNeg < n := by
  unfold b_idx at h
  rw [Bool.and_eq_true] at h
  have h1 := b_ent_ok hE.2.1 hE.2.2.1 h.1 hj
  have h2 := b_ent_ok hE.2.1 hE.2.2.1 h.2 (b_is_ad (k := -1) (b_is_c ((n : Int) - 1)) hj)
  obtain ⟨g1, g2, g3, -⟩ := g_ix (j := j) (n := n) h1 (by omega)
  exact ⟨g1, g2, g3⟩
theorem b_rg_ok (hE : bg_E F v E m) {x : b_T} {n j : Nat} (hj : b_is v x (j : Int)) (hn : j < n) : (b_rg E.2.1 x n).1 ≤ j ∧ j ≤ (b_rg E.2.1 x n).2 := by
  unfold b_rg
  split
  · rename_i p hp
    have h := b_iv_ok hE.2.1 hp hj
    simp only
    refine ⟨by omega, ?_⟩
    have : (j : Int) ≤ a_mn p.2 ((n : Int) - 1) := a_mn_ge h.2 (by omega)
    omega
  · simp only
    omega
theorem b_ex_ok : ∀ {ex : List (Nat × Int × Int)} {j : Nat} {r : Int × Int}, b_ex ex j = some r → (j, r) ∈ ex
  | [], j, r, h => by simp [b_ex] at h
  | q :: ex, j, r, h => by
    unfold b_ex at h
    split at h
    · rename_i hb
      have hb := Nat.eq_of_beq_eq_true hb
      cases h
      subst hb
      exact List.mem_cons_self
    · exact List.mem_cons_of_mem _ (b_ex_ok h)
theorem b_bnd_ok {B : a_B} (hB : g_B v B) {ex : List (Nat × Int × Int)} {lo hi : Int} {x : b_T} {f : Nat → Int32} {j n : Nat} (hj : b_is v x (j : Int)) (hn : j < n) (h1 : ∀ j, j < n → lo ≤ (f j).toInt ∧ (f j).toInt ≤ hi) (h2 : ∀ q ∈ ex, q.2.1 ≤ (f q.1).toInt ∧ (f q.1).toInt ≤ q.2.2) : (b_bnd B ex lo hi x).1 ≤ (f j).toInt ∧ (f j).toInt ≤ (b_bnd B ex lo hi x).2 := by
  unfold b_bnd
  split
  · exact h1 j hn
  · split
    · rename_i p hp
      have h := b_iv_ok hB hp hj
      split
      · split
        · rename_i r hr
          have e : p.1.toNat = j := by omega
          rw [e] at hr
          exact h2 _ (b_ex_ok hr)
        · exact h1 j hn
      · exact h1 j hn
    · exact h1 j hn
/-- a read: the known value, or a new one within its bounds -/
theorem b_rd_ok {c j : Nat} {t : b_T} {lg : Bool} {lo hi z : Int} {r : List b_V} {st : List Value} (hE : bg_E F v E m) (hM : bi_M I m) (hj : b_is v t (j : Int)) (hz1 : lo ≤ z) (hz2 : z ≤ hi) (hz : match lg with | false => ∃ w : Int32, q_at m c j = .int w ∧ w.toInt = z | true => ∃ w : Int64, q_at m c j = .long w ∧ w.toInt = z) (hs : bg_s v r st) {res : Option (List Value × q_M)} (hr : res = some (q_at m c j :: st, m)) : bg_X I W F v m [b_rd E c t lg lo hi r] res := by
  refine ⟨_, List.mem_singleton.mpr rfl, ?_⟩
  unfold b_rd
  split
  · rename_i x hx
    obtain ⟨j2, h1, h2⟩ := hE.2.2.2.1 _ (b_mo_ok hx)
    have e : (j2 : Int) = j := b_is_uniq h1 hj
    have e : j2 = j := by omega
    subst e
    exact ⟨[], _, m, hr, by simpa using hE, by simpa using ⟨h2, hs⟩, hM, q_same.rf⟩
  · split
    rename_i k B C x hx
    have hR := b_new_ok hE.1 hE.2.1 hE.2.2.1 (lg := lg) hz1 hz2
    rw [hx] at hR
    obtain ⟨t1, g1, g2, g3, g4, g5⟩ := hR
    obtain ⟨lg1, e1⟩ := x
    simp only at g1 g2 g3 g4 g5
    subst g4
    have hn : bg_n (v ++ t1) (lg1, e1) (q_at m c j) := by
      cases lg1 with
      | false =>
        obtain ⟨w, e2, rfl⟩ := hz
        exact ⟨w, e2, g5⟩
      | true =>
        obtain ⟨w, e2, rfl⟩ := hz
        exact ⟨w, e2, g5⟩
    refine ⟨t1, _, m, hr, ⟨g1, g2, g3, ?_, fun t ht => bg_Q_ext (hE.2.2.2.2 t ht)⟩, ⟨hn, bg_s_ext hs⟩, hM, q_same.rf⟩
    intro o ho
    rcases List.mem_cons.mp ho with rfl | ho
    · exact ⟨j, b_is_ext hj, hn⟩
    · exact bg_O_ext (hE.2.2.2.1 o ho)
theorem bg_X0 {x : b_X} {st : List Value} {m1 : q_M} {res : Option (List Value × q_M)} (hr : res = some (st, m1)) (hE : bg_E F v x.1 m1) (hs : bg_s v x.2 st) (hM : bi_M I m1) (hw : q_same W m m1) : bg_X I W F v m [x] res :=
  ⟨x, List.mem_singleton.mpr rfl, [], st, m1, hr, by simpa using hE, by simpa using hs, hM, hw⟩
theorem b_refs_ok {x : b_T} {r : List b_V} (hE : bg_E F v E m) (hM : bi_M I m) {st : List Value} (hs : bg_s v r st) {j : Int32} (hj : b_is v x j.toInt) : ∀ (cs : List Nat) (k : Int) (n : Nat) (c : Nat), cs[n]? = some c → j.toInt = k + n → ∀ {res : Option (List Value × q_M)}, res = some (.ref c :: st, m) → bg_X I W F v m (b_refs E x r k cs) res
  | [], k, n, c, hc, _, res, hr => by simp at hc
  | d :: cs, k, 0, c, hc, hk, res, hr => by
    simp at hc
    subst hc
    unfold b_refs
    obtain ⟨q, a1, a2, a3⟩ := b_cmp_ok (c := .eq) hE.2.1 hE.2.2.1 hj (b_is_c k) (by show j.toInt = k; omega)
    exact ⟨_, List.mem_append_left _ (List.mem_map.mpr ⟨q, a1, rfl⟩), [], _, m, hr, by simpa using ⟨hE.1, a2, a3, hE.2.2.2⟩, by simpa using ⟨rfl, hs⟩, hM, q_same.rf⟩
  | d :: cs, k, n + 1, c, hc, hk, res, hr => by
    simp at hc
    unfold b_refs
    obtain ⟨y, h1, h2⟩ := b_refs_ok hE hM hs hj cs (k + 1) n c hc (by omega) hr
    exact ⟨y, List.mem_append_right _ h1, h2⟩
end BMEM
end
section
theorem bi_get {I : List b_I} {m : q_M} (h : bi_M I m) {a : Nat} {x : b_I} (hx : I[a]? = some x) : ∃ y, m[a]? = some y ∧ bi_c x y := g_2_get h hx
theorem bi_set {I : List b_I} {m : q_M} (h : bi_M I m) {a : Nat} {x : b_I} {y : q_E} (hx : I[a]? = some x) (hy : bi_c x y) : bi_M I (m.set a y) := by
  have e : I.set a x = I := by
    apply List.ext_getElem?
    intro i
    rw [List.getElem?_set]
    by_cases hi : a = i
    · subst hi
      have := (List.getElem?_eq_some_iff.mp hx).1
      rw [if_pos rfl, if_pos this, hx]
    · rw [if_neg hi]
  have := g_2_set h (i := a) hy
  rw [e] at this
  exact this
theorem q_at_setI {m : q_M} {a t n k : Nat} {f : Nat → Int32} {x : Int32} (h : m[a]? = some (.inl (t, n, .inl f))) : ∀ d j, ¬ (d = a ∧ j = k) → q_at (m.set a (.inl (t, n, .inl (upd f k x)))) d j = q_at m d j := by
  intro d j hn
  by_cases hd : d = a
  · subst hd
    rw [q_at_int (q_get_set h), q_at_int h]
    have : j ≠ k := fun e => hn ⟨rfl, e⟩
    simp [upd, this]
  · exact q_at_ne (fun e => hd e.symm)
theorem q_at_setL {m : q_M} {a t n k : Nat} {f : Nat → Int64} {x : Int64} (h : m[a]? = some (.inl (t, n, .inr (.inl f)))) : ∀ d j, ¬ (d = a ∧ j = k) → q_at (m.set a (.inl (t, n, .inr (.inl (vp_updL f k x))))) d j = q_at m d j := by
  intro d j hn
  by_cases hd : d = a
  · subst hd
    rw [q_at_long (q_get_set h), q_at_long h]
    have : j ≠ k := fun e => hn ⟨rfl, e⟩
    simp [vp_updL, this]
  · exact q_at_ne (fun e => hd e.symm)
theorem q_at_setF {m : q_M} {a ci k : Nat} {vs : List Value} {x : Value} (h : m[a]? = some (.inr (ci, vs))) : ∀ d j, ¬ (d = a ∧ j = k) → q_at (m.set a (.inr (ci, vs.set k x))) d j = q_at m d j := by
  intro d j hn
  by_cases hd : d = a
  · subst hd
    rw [q_at_obj (q_get_set h), q_at_obj h]
    have : k ≠ j := fun e => hn ⟨rfl, e.symm⟩
    rw [List.getD_eq_getElem?_getD, List.getD_eq_getElem?_getD, List.getElem?_set_ne this]
  · exact q_at_ne (fun e => hd e.symm)
theorem bg_ac {v : List Int} : ∀ {sa : List b_V} {st : List Value}, bg_s v sa st → b_ac sa = q_cats st
  | [], [], _ => rfl
  | x :: sa, y :: st, h => by
    have ih := bg_ac h.2
    have hc := bg_cat h.1
    simp only [b_ac, q_cats, List.map_cons, List.sum_cons] at ih ⊢
    omega
  | [], _ :: _, h => h.elim
  | _ :: _, [], h => h.elim
theorem b_far {d a j k lo hi : Nat} (h1 : lo ≤ k) (h2 : k ≤ hi) (h : ¬ (d = a ∧ lo ≤ j ∧ j ≤ hi)) : ¬ (d = a ∧ j = k) := by
  rintro ⟨e1, e2⟩
  exact h ⟨e1, by omega, by omega⟩
theorem b_fitok {ty : FieldType} {lg : Bool} {v : List Int} {e : b_T} {y : Value} (h : b_fit ty lg = true) (hy : bg_n v (lg, e) y) : narrow ty y = y ∧ fits ty y = true := by
  cases lg with
  | false =>
    obtain ⟨z, rfl, -⟩ := hy
    cases ty <;> first | exact ⟨rfl, rfl⟩ | cases h
  | true =>
    obtain ⟨z, rfl, -⟩ := hy
    cases ty <;> first | exact ⟨rfl, rfl⟩ | cases h
theorem b_cpyI {m : q_M} {a t n sp dp w : Nat} {f g : Nat → Int32} (h : m[a]? = some (.inl (t, n, .inl g))) (hn : 0 < n) (hw : dp + w ≤ n) : ∀ d j, ¬ (d = a ∧ 0 ≤ j ∧ j ≤ n - 1) → q_at (m.set a (.inl (t, n, .inl (va_cpy f g sp dp w)))) d j = q_at m d j := by
  intro d j hj
  by_cases hd : d = a
  · subst hd
    rw [q_at_int (q_get_set h), q_at_int h]
    unfold va_cpy
    rw [if_neg (by omega)]
  · exact q_at_ne (fun e => hd e.symm)
theorem b_cpyL {m : q_M} {a t n sp dp w : Nat} {f g : Nat → Int64} (h : m[a]? = some (.inl (t, n, .inr (.inl g)))) (hn : 0 < n) (hw : dp + w ≤ n) : ∀ d j, ¬ (d = a ∧ 0 ≤ j ∧ j ≤ n - 1) → q_at (m.set a (.inl (t, n, .inr (.inl (va_cpy f g sp dp w))))) d j = q_at m d j := by
  intro d j hj
  by_cases hd : d = a
  · subst hd
    rw [q_at_long (q_get_set h), q_at_long h]
    unfold va_cpy
    rw [if_neg (by omega)]
  · exact q_at_ne (fun e => hd e.symm)
theorem b_nn {x : Int32} (h : 0 ≤ x.toInt) : ¬ x < 0 ∧ (x.toNatClampNeg : Int) = x.toInt := by
  have h2 := Int32.toInt_lt x
  obtain ⟨-, h3, -, h4⟩ := g_ix (j := x) (n := 2 ^ 31) h (by omega)
  exact ⟨h4, h3⟩
section BMEMG
variable {F : Nat → List Int → q_M → Prop} {fp : Nat → b_W} {v : List Int} {E : b_E} {m : q_M} {I : List b_I} {W : b_W} {G : q_G}
set_option maxHeartbeats 4000000 in
theorem b_mem_ok {sto : b_Sto} (hSt : bg_Sto I F sto) {rdb : b_Rdb} (hRd : bg_Rdb I F rdb) {fr lo : Nat} {i : Instr} {sa : List b_V} {st : List Value} {xs : List b_X} (h : b_mem G I W fp sto rdb fr lo i E sa = some xs) (hF : bg_F I fp F) (hE : bg_E F v E m) (hM : bi_M I m) (hs : bg_s v sa st) : bg_X I W F v m xs (q_mem G fr lo i st m) := by
  unfold b_mem at h
  split at h
  · -- getfield
    rename_i n
    split at h
    rotate_left
    · cases h
    rename_i a r
    obtain ⟨y, ys, rfl, hy, hs1⟩ := g_ca hs
    have hy : y = .ref a := hy
    subst hy
    split at h
    rotate_left
    · cases h
    rename_i ci fs hI
    obtain ⟨y, hm, vs, rfl, hvs⟩ := bi_get hM hI
    split at h
    rotate_left
    · cases h
    rename_i hci
    split at h
    · rename_i c hf
      cases h
      obtain ⟨x, hx, hxv⟩ := g_2_get hvs hf
      have hxv : x = .ref c := hxv
      subst hxv
      exact bg_X0 (st := .ref c :: ys) (by simp only [q_mem, hm, if_pos hci, hx]) hE ⟨rfl, hs1⟩ hM q_same.rf
    · rename_i lg l h0 hf
      cases h
      obtain ⟨x, hx, hxv⟩ := g_2_get hvs hf
      have e1 : q_at m a (n % 64) = x := by rw [q_at_obj hm, List.getD_eq_getElem?_getD, hx]; rfl
      cases lg with
      | false =>
        obtain ⟨z, rfl, z1, z2⟩ := hxv
        exact b_rd_ok (c := a) (j := n % 64) (lg := false) (z := z.toInt) hE hM (b_is_c _) z1 z2 ⟨z, e1, rfl⟩ hs1 (by rw [e1]; simp only [q_mem, hm, if_pos hci, hx])
      | true =>
        obtain ⟨z, rfl, z1, z2⟩ := hxv
        exact b_rd_ok (c := a) (j := n % 64) (lg := true) (z := z.toInt) hE hM (b_is_c _) z1 z2 ⟨z, e1, rfl⟩ hs1 (by rw [e1]; simp only [q_mem, hm, if_pos hci, hx])
    · cases h
  · -- putfield
    rename_i n
    split at h
    rotate_left
    · cases h
    rename_i lg e a r
    obtain ⟨x, xs1, rfl, hx, hs1⟩ := g_ca hs
    replace hs := hs1
    clear hs1
    obtain ⟨y, ys, rfl, hy, hs1⟩ := g_ca hs
    have hy : y = .ref a := hy
    subst hy
    split at h
    rotate_left
    · cases h
    rename_i ci fs hI
    obtain ⟨y, hm, vs, rfl, hvs⟩ := bi_get hM hI
    split at h
    rotate_left
    · cases h
    rename_i lg1 l h0 hf
    split at h
    rotate_left
    · cases h
    rename_i hc
    obtain ⟨hci, rfl, hfit, hin, hW⟩ := hc
    cases h
    have hlt : n % 64 < vs.length := by rw [← g_2_len hvs]; exact (List.getElem?_eq_some_iff.mp hf).1
    obtain ⟨hn, hft⟩ := b_fitok hfit hx
    have hch := q_at_setF (k := n % 64) (x := x) hm
    have hch2 : ∀ d j, ¬ (d = a ∧ n % 64 ≤ j ∧ j ≤ n % 64) → q_at (m.set a (.inr (ci, vs.set (n % 64) x))) d j = q_at m d j := fun d j hd => hch d j (b_far (Nat.le_refl _) (Nat.le_refl _) hd)
    have hat : q_at (m.set a (.inr (ci, vs.set (n % 64) x))) a (n % 64) = x := by
      rw [q_at_obj (q_get_set hm), List.getD_eq_getElem?_getD, List.getElem?_set_self hlt]
      rfl
    suffices hM1 : bi_M I (m.set a (.inr (ci, vs.set (n % 64) x))) by
      exact bg_X0 (st := ys) (m1 := m.set a (.inr (ci, vs.set (n % 64) x))) (by simp only [q_mem, hm]; rw [if_pos ⟨hci, hlt, hn, hft⟩]) (b_wr_ok hF hSt hE hM hM1 hch (Nat.le_refl _) (Nat.le_refl _) (b_is_c _) (by rw [hat]; exact hx)) hs1 hM1 (b_same_of hW hch2)
    refine bi_set hM hI ⟨_, rfl, ?_⟩
    have e9 : fs.set (n % 64) (.inl (lg, l, h0)) = fs := by
      apply List.ext_getElem?
      intro i
      rw [List.getElem?_set]
      by_cases hi : n % 64 = i
      · subst hi
        rw [if_pos rfl, if_pos (List.getElem?_eq_some_iff.mp hf).1, hf]
      · rw [if_neg hi]
    have := g_2_set hvs (i := n % 64) (a := .inl (lg, l, h0)) (b := x) (by
      cases lg with
      | false =>
        obtain ⟨z, rfl, hz⟩ := hx
        have := b_inb_ok hE hin hz
        exact ⟨z, rfl, this⟩
      | true =>
        obtain ⟨z, rfl, hz⟩ := hx
        have := b_inb_ok hE hin hz
        exact ⟨z, rfl, this⟩)
    rw [e9] at this
    exact this
  · -- iaload
    split at h
    rotate_left
    · cases h
    rename_i x a r
    obtain ⟨y0, ys0, rfl, hy0, hs1⟩ := g_ca hs
    replace hs := hs1
    clear hs1
    obtain ⟨j, rfl, hj⟩ := hy0
    obtain ⟨y, ys, rfl, hy, hs1⟩ := g_ca hs
    have hy : y = .ref a := hy
    subst hy
    split at h
    rotate_left
    · cases h
    rename_i t n ex l h0 hI
    obtain ⟨y, hm, f, rfl, hf1, hf2, hf3⟩ := bi_get hM hI
    split at h
    rotate_left
    · cases h
    rename_i hc
    cases h
    obtain ⟨g1, g2, g3⟩ := b_idx_ok hE hc.2 hj
    replace hj : b_is v x (j.toNatClampNeg : Int) := by rw [g2]; exact hj
    have hb0 := b_bnd_ok hE.2.1 hj g3 hf1 hf2
    have hb : (b_rdi rdb E a x (b_bnd E.2.1 ex l h0 x)).1 ≤ (f j.toNatClampNeg).toInt ∧ (f j.toNatClampNeg).toInt ≤ (b_rdi rdb E a x (b_bnd E.2.1 ex l h0 x)).2 := by
      unfold b_rdi
      split
      · exact hb0
      · split
        · rename_i q hq
          exact hRd.2 v E m a x _ _ q hE hM hj (q_at_int hm) hq
        · exact hb0
    exact b_rd_ok (c := a) (lg := false) (j := j.toNatClampNeg) hE hM hj hb.1 hb.2 ⟨_, q_at_int hm, rfl⟩ hs1 (by rw [q_at_int hm]; simp only [q_mem, hm]; rw [if_pos ⟨hc.1, g1⟩])
  · -- baload
    split at h
    rotate_left
    · cases h
    rename_i x a r
    obtain ⟨y0, ys0, rfl, hy0, hs1⟩ := g_ca hs
    replace hs := hs1
    clear hs1
    obtain ⟨j, rfl, hj⟩ := hy0
    obtain ⟨y, ys, rfl, hy, hs1⟩ := g_ca hs
    have hy : y = .ref a := hy
    subst hy
    split at h
    rotate_left
    · cases h
    rename_i t n ex l h0 hI
    obtain ⟨y, hm, f, rfl, hf1, hf2, hf3⟩ := bi_get hM hI
    split at h
    rotate_left
    · cases h
    rename_i hc
    cases h
    obtain ⟨g1, g2, g3⟩ := b_idx_ok hE hc.2 hj
    replace hj : b_is v x (j.toNatClampNeg : Int) := by rw [g2]; exact hj
    have hb := b_bnd_ok hE.2.1 hj g3 hf1 hf2
    exact b_rd_ok (c := a) (lg := false) (j := j.toNatClampNeg) hE hM hj hb.1 hb.2 ⟨_, q_at_int hm, rfl⟩ hs1 (by rw [q_at_int hm]; simp only [q_mem, hm]; rw [if_pos ⟨hc.1, g1⟩])
  · -- laload
    split at h
    rotate_left
    · cases h
    rename_i x a r
    obtain ⟨y0, ys0, rfl, hy0, hs1⟩ := g_ca hs
    replace hs := hs1
    clear hs1
    obtain ⟨j, rfl, hj⟩ := hy0
    obtain ⟨y, ys, rfl, hy, hs1⟩ := g_ca hs
    have hy : y = .ref a := hy
    subst hy
    split at h
    rotate_left
    · cases h
    rename_i t n u hI
    obtain ⟨y, hm, f, rfl, hf3⟩ := bi_get hM hI
    split at h
    rotate_left
    · cases h
    rename_i hc
    cases h
    obtain ⟨g1, g2, g3⟩ := b_idx_ok hE hc.2 hj
    replace hj : b_is v x (j.toNatClampNeg : Int) := by rw [g2]; exact hj
    have hb : (b_rdl rdb E a x).1 ≤ (f j.toNatClampNeg).toInt ∧ (f j.toNatClampNeg).toInt ≤ (b_rdl rdb E a x).2 := by
      unfold b_rdl
      split
      · exact g_in64 _
      · split
        · rename_i q hq
          exact hRd.1 v E m a x _ _ q hE hM hj (q_at_long hm) hq
        · exact g_in64 _
    exact b_rd_ok (c := a) (j := j.toNatClampNeg) (lg := true) hE hM hj hb.1 hb.2 ⟨_, q_at_long hm, rfl⟩ hs1 (by rw [q_at_long hm]; simp only [q_mem, hm]; rw [if_pos ⟨hc.1, g1⟩])
  · -- aaload
    split at h
    rotate_left
    · cases h
    rename_i x a r
    obtain ⟨y0, ys0, rfl, hy0, hs1⟩ := g_ca hs
    replace hs := hs1
    clear hs1
    obtain ⟨j, rfl, hj⟩ := hy0
    obtain ⟨y, ys, rfl, hy, hs1⟩ := g_ca hs
    have hy : y = .ref a := hy
    subst hy
    split at h
    rotate_left
    · cases h
    rename_i t n rs hI
    obtain ⟨y, hm, f, rfl, hlen, hf⟩ := bi_get hM hI
    split at h
    rotate_left
    · cases h
    rename_i hc
    cases h
    obtain ⟨g1, g2, g3⟩ := b_idx_ok hE hc.2.2 hj
    have hlt : j.toNatClampNeg < rs.length := by omega
    have hfj := (hf j.toNatClampNeg).trans (List.getElem?_eq_getElem hlt)
    exact b_refs_ok hE hM hs1 hj rs 0 j.toNatClampNeg _ (List.getElem?_eq_getElem hlt) (by omega) (res := q_mem G fr lo .aaload (.int j :: .ref a :: ys) m) (by simp only [q_mem, hm]; rw [if_pos ⟨hc.1, g1, hc.2.1⟩, hfj]; rfl)
  · -- iastore
    split at h
    rotate_left
    · cases h
    rename_i e x a r
    obtain ⟨x0, xs0, rfl, hx0, hs1⟩ := g_ca hs
    replace hs := hs1
    clear hs1
    have hx1 := hx0
    obtain ⟨w, rfl, hw⟩ := hx0
    obtain ⟨y0, ys0, rfl, hy0, hs1⟩ := g_ca hs
    replace hs := hs1
    clear hs1
    obtain ⟨j, rfl, hj⟩ := hy0
    obtain ⟨y, ys, rfl, hy, hs1⟩ := g_ca hs
    have hy : y = .ref a := hy
    subst hy
    split at h
    rotate_left
    · cases h
    rename_i t n ex l h0 hI
    obtain ⟨y, hm, f, rfl, hf1, hf2, hf3⟩ := bi_get hM hI
    split at h
    rotate_left
    · cases h
    rename_i hc
    obtain ⟨ht, hi, hb, hex, hW⟩ := hc
    cases h
    obtain ⟨g1, g2, g3⟩ := b_idx_ok hE hi hj
    replace hj : b_is v x (j.toNatClampNeg : Int) := by rw [g2]; exact hj
    have hr := b_rg_ok hE hj g3
    have hch := q_at_setI (k := j.toNatClampNeg) (x := w) hm
    have hch2 : ∀ d k, ¬ (d = a ∧ (b_rg E.2.1 x n).1 ≤ k ∧ k ≤ (b_rg E.2.1 x n).2) → q_at (m.set a (.inl (t, n, .inl (upd f j.toNatClampNeg w)))) d k = q_at m d k := fun d k hd => hch d k (b_far hr.1 hr.2 hd)
    have hat : q_at (m.set a (.inl (t, n, .inl (upd f j.toNatClampNeg w)))) a j.toNatClampNeg = .int w := by
      rw [q_at_int (q_get_set hm)]
      simp [upd]
    suffices hM1 : bi_M I (m.set a (.inl (t, n, .inl (upd f j.toNatClampNeg w)))) by
      exact bg_X0 (st := ys) (m1 := m.set a (.inl (t, n, .inl (upd f j.toNatClampNeg w)))) (by simp only [q_mem, hm]; rw [if_pos ⟨ht, g1⟩]) (b_wr_ok hF hSt hE hM hM1 hch hr.1 hr.2 hj (by rw [hat]; exact hx1)) hs1 hM1 (b_same_of hW hch2)
    refine bi_set hM hI ⟨_, rfl, ?_, ?_, fun k hk => by simp only [upd, if_neg (show k ≠ j.toNatClampNeg by omega)]; exact hf3 k hk⟩
    · intro k hk
      by_cases hkj : k = j.toNatClampNeg
      · subst hkj
        have := b_inb_ok hE hb hw
        simp only [upd, if_pos]
        exact this
      · simp only [upd, if_neg hkj]
        exact hf1 k hk
    · intro q hq
      by_cases hkj : q.1 = j.toNatClampNeg
      · have h9 := List.all_eq_true.mp hex q hq
        rw [Bool.or_eq_true] at h9
        rcases h9 with h9 | h9
        · simp only [Bool.not_eq_true', decide_eq_false_iff_not] at h9
          omega
        · rw [Bool.or_eq_true] at h9
          rcases h9 with h9 | h9
          · have := b_inb_ok hE h9 hw
            simp only [upd, if_pos hkj]
            exact this
          · have := b_cpx_ok hE hM h9 (by rw [hkj]; exact hj) hw
            simp only [upd, if_pos hkj]
            exact this
      · simp only [upd, if_neg hkj]
        exact hf2 q hq
  · -- bastore
    split at h
    rotate_left
    · cases h
    rename_i e x a r
    obtain ⟨x0, xs0, rfl, hx0, hs1⟩ := g_ca hs
    replace hs := hs1
    clear hs1
    obtain ⟨w, rfl, hw⟩ := hx0
    obtain ⟨y0, ys0, rfl, hy0, hs1⟩ := g_ca hs
    replace hs := hs1
    clear hs1
    obtain ⟨j, rfl, hj⟩ := hy0
    obtain ⟨y, ys, rfl, hy, hs1⟩ := g_ca hs
    have hy : y = .ref a := hy
    subst hy
    split at h
    rotate_left
    · cases h
    rename_i t n l h0 hI
    obtain ⟨y, hm, f, rfl, hf1, hf2, hf3⟩ := bi_get hM hI
    split at h
    rotate_left
    · cases h
    rename_i hc
    obtain ⟨ht, hi, hW⟩ := hc
    cases h
    obtain ⟨g1, g2, g3⟩ := b_idx_ok hE hi hj
    replace hj : b_is v x (j.toNatClampNeg : Int) := by rw [g2]; exact hj
    have hr := b_rg_ok hE hj g3
    have key : ∀ u : Int32, l ≤ u.toInt ∧ u.toInt ≤ h0 → q_mem G fr lo .bastore (.int w :: .int j :: .ref a :: ys) m = some (ys, m.set a (.inl (t, n, .inl (upd f j.toNatClampNeg u)))) → (t = 3 → b_inb E e 0 1 = true → u = w) → bg_X I W F v m [(b_wb fp sto E t a (b_rg E.2.1 x n).1 (b_rg E.2.1 x n).2 x e, r)] (q_mem G fr lo .bastore (.int w :: .int j :: .ref a :: ys) m) := by
      intro u hu hq hu1
      have hch := q_at_setI (k := j.toNatClampNeg) (x := u) hm
      have hch2 : ∀ d k, ¬ (d = a ∧ (b_rg E.2.1 x n).1 ≤ k ∧ k ≤ (b_rg E.2.1 x n).2) → q_at (m.set a (.inl (t, n, .inl (upd f j.toNatClampNeg u)))) d k = q_at m d k := fun d k hd => hch d k (b_far hr.1 hr.2 hd)
      suffices hM1 : bi_M I (m.set a (.inl (t, n, .inl (upd f j.toNatClampNeg u)))) by
        refine bg_X0 hq ?_ hs1 hM1 (b_same_of hW hch2)
        unfold b_wb
        split
        · exact b_wr0_ok hF hE hM hM1 hch2
        · split
          · rename_i hc1
            have eu := hu1 hc1.1 hc1.2
            subst eu
            have hlt := (List.getElem?_eq_some_iff.mp hm).1
            have hat : q_at (m.set a (.inl (t, n, .inl (upd f j.toNatClampNeg u)))) a j.toNatClampNeg = .int u := by
              rw [q_at_int (t := t) (n := n) (f := upd f j.toNatClampNeg u) (by rw [List.getElem?_set_self hlt])]
              simp [upd]
            exact b_wr_ok hF hSt hE hM hM1 hch hr.1 hr.2 hj (by rw [hat]; exact ⟨u, rfl, hw⟩)
          · exact b_wr0_ok hF hE hM hM1 hch2
      refine bi_set hM hI ⟨_, rfl, ?_, fun q hq => by (cases hq), fun k hk => by simp only [upd, if_neg (show k ≠ j.toNatClampNeg by omega)]; exact hf3 k hk⟩
      intro k hk
      by_cases hkj : k = j.toNatClampNeg
      · subst hkj
        simp only [upd, if_pos]
        exact hu
      · simp only [upd, if_neg hkj]
        exact hf1 k hk
    rcases ht with ⟨rfl, t1, t2⟩ | ⟨rfl, t1, t2⟩
    · have hb8 := g_b8 w
      exact key (vp_nar .byte w) ⟨by show l ≤ (w.toInt8.toInt32).toInt; omega, by show (w.toInt8.toInt32).toInt ≤ h0; omega⟩ (by simp only [q_mem, hm]; rw [if_pos ⟨trivial, g1⟩]) (fun z => absurd z (by decide))
    · have hb1 := g_bool w
      exact key (vp_nar .boolean w) ⟨by omega, by omega⟩ (by simp only [q_mem, hm]; rw [if_neg (fun z => absurd z.1 (by decide)), if_pos ⟨trivial, g1⟩]) (fun _ hin => by
        have hb := b_inb_ok hE hin hw
        have : w = 0 ∨ w = 1 := by
          rcases (show w.toInt = 0 ∨ w.toInt = 1 by omega) with h | h
          · exact Or.inl (Int32.toInt_inj.mp h)
          · exact Or.inr (Int32.toInt_inj.mp h)
        rcases this with rfl | rfl <;> rfl)
  · -- lastore
    split at h
    rotate_left
    · cases h
    rename_i e x a r
    obtain ⟨x0, xs0, rfl, hx0, hs1⟩ := g_ca hs
    replace hs := hs1
    clear hs1
    have hx1 := hx0
    obtain ⟨w, rfl, hw⟩ := hx0
    obtain ⟨y0, ys0, rfl, hy0, hs1⟩ := g_ca hs
    replace hs := hs1
    clear hs1
    obtain ⟨j, rfl, hj⟩ := hy0
    obtain ⟨y, ys, rfl, hy, hs1⟩ := g_ca hs
    have hy : y = .ref a := hy
    subst hy
    split at h
    rotate_left
    · cases h
    rename_i t n u hI
    obtain ⟨y, hm, f, rfl, hf3⟩ := bi_get hM hI
    split at h
    rotate_left
    · cases h
    rename_i hc
    obtain ⟨ht, hi, hW⟩ := hc
    cases h
    obtain ⟨g1, g2, g3⟩ := b_idx_ok hE hi hj
    replace hj : b_is v x (j.toNatClampNeg : Int) := by rw [g2]; exact hj
    have hr := b_rg_ok hE hj g3
    have hch := q_at_setL (k := j.toNatClampNeg) (x := w) hm
    have hch2 : ∀ d k, ¬ (d = a ∧ (b_rg E.2.1 x n).1 ≤ k ∧ k ≤ (b_rg E.2.1 x n).2) → q_at (m.set a (.inl (t, n, .inr (.inl (vp_updL f j.toNatClampNeg w))))) d k = q_at m d k := fun d k hd => hch d k (b_far hr.1 hr.2 hd)
    have hat : q_at (m.set a (.inl (t, n, .inr (.inl (vp_updL f j.toNatClampNeg w))))) a j.toNatClampNeg = .long w := by
      rw [q_at_long (q_get_set hm)]
      simp [vp_updL]
    have hM1 : bi_M I (m.set a (.inl (t, n, .inr (.inl (vp_updL f j.toNatClampNeg w))))) := bi_set hM hI ⟨_, rfl, fun k hk => by simp only [vp_updL, if_neg (show k ≠ j.toNatClampNeg by omega)]; exact hf3 k hk⟩
    exact bg_X0 (st := ys) (m1 := m.set a (.inl (t, n, .inr (.inl (vp_updL f j.toNatClampNeg w))))) (by simp only [q_mem, hm]; rw [if_pos ⟨ht, g1⟩]) (b_wr_ok hF hSt hE hM hM1 hch hr.1 hr.2 hj (by rw [hat]; exact hx1)) hs1 hM1 (b_same_of hW hch2)
  · -- arraylength
    split at h
    rotate_left
    · cases h
    rename_i a r
    obtain ⟨y, ys, rfl, hy, hs1⟩ := g_ca hs
    have hy : y = .ref a := hy
    subst hy
    split at h
    rotate_left
    · cases h
    rename_i t n u hI
    obtain ⟨y, hm, hy⟩ := bi_get hM hI
    split at h
    rotate_left
    · cases h
    rename_i hc
    cases h
    have fin : ∀ z, y = .inl (t, n, z) → bg_X I W F v m [(E, .inl (false, b_c n) :: r)] (q_mem G fr lo .arraylength (.ref a :: ys) m) := by
      rintro z rfl
      exact bg_X0 (st := .int (Int32.ofNat n) :: ys) (by simp only [q_mem, hm]; rw [if_pos hc.1]) hE ⟨⟨_, rfl, by rw [g_len hc.2]; exact b_is_c _⟩, hs1⟩ hM q_same.rf
    match u, hy with
    | .inl (ex, l, h0), ⟨f, hf, _⟩ => exact fin _ hf
    | .inr (.inl _), ⟨f, hf, _⟩ => exact fin _ hf
    | .inr (.inr rs), ⟨f, hf, _⟩ => exact fin _ hf
  · -- copies and texts
    rename_i n
    split at h
    · rename_i hn
      subst hn
      split at h
      rotate_left
      · cases h
      rename_i w dp d sp j r
      split at h
      rotate_left
      · cases h
      rename_i hfl
      obtain ⟨x0, xs0, rfl, hx0, hs1⟩ := g_ca hs
      replace hs := hs1
      clear hs1
      obtain ⟨cw, rfl, hw⟩ := hx0
      obtain ⟨x0, xs0, rfl, hx0, hs1⟩ := g_ca hs
      replace hs := hs1
      clear hs1
      obtain ⟨cd, rfl, hd⟩ := hx0
      obtain ⟨y, ys, rfl, hy, hs1⟩ := g_ca hs
      replace hs := hs1
      clear hs1
      have hy : y = .ref d := hy
      subst hy
      obtain ⟨x0, xs0, rfl, hx0, hs1⟩ := g_ca hs
      replace hs := hs1
      clear hs1
      obtain ⟨cs, rfl, hsp⟩ := hx0
      obtain ⟨y, ys, rfl, hy, hs1⟩ := g_ca hs
      replace hs := hs1
      clear hs1
      have hy : y = .ref j := hy
      subst hy
      have hac := bg_ac hs
      unfold b_cpy at h
      split at h
      · rename_i t0 n0 ex0 l0 h00 t1 n1 l1 h1 hj hd1
        obtain ⟨y1, hm1, f, rfl, hf1, hf2, hf3⟩ := bi_get hM hj
        obtain ⟨y2, hm2, g, rfl, hg1, hg2, hg3⟩ := bi_get hM hd1
        split at h
        rotate_left
        · cases h
        rename_i hc
        obtain ⟨rfl, rfl, c1, c2, c3, c4, c5, c6, c7, c8, hW⟩ := hc
        cases h
        have k1 := b_ent_ok hE.2.1 hE.2.2.1 c4 hw
        have k2 := b_ent_ok hE.2.1 hE.2.2.1 c5 hd
        have k3 := b_ent_ok hE.2.1 hE.2.2.1 c6 hsp
        have k4 := b_ent_ok hE.2.1 hE.2.2.1 c7 (b_is_ad (k := -1) (b_is_ad (k := -1) (b_is_c (n0 : Int)) hsp) hw)
        have k5 := b_ent_ok hE.2.1 hE.2.2.1 c8 (b_is_ad (k := -1) (b_is_ad (k := -1) (b_is_c (n1 : Int)) hd) hw)
        obtain ⟨p1, p2⟩ := b_nn k1
        obtain ⟨p3, p4⟩ := b_nn k2
        obtain ⟨p5, p6⟩ := b_nn k3
        have hch := b_cpyI (f := f) (sp := cs.toNatClampNeg) (dp := cd.toNatClampNeg) (w := cw.toNatClampNeg) hm2 c3 (by omega)
        have hM1 : bi_M I (m.set d (.inl (0, n1, .inl (va_cpy f g cs.toNatClampNeg cd.toNatClampNeg cw.toNatClampNeg)))) := by
          refine bi_set hM hd1 ⟨_, rfl, ?_, fun q hq => by (cases hq), fun k hk => ?_⟩
          · intro k hk
            unfold va_cpy
            split
            · have := hf1 (cs.toNatClampNeg + (k - cd.toNatClampNeg)) (by omega)
              omega
            · exact hg1 k hk
          · unfold va_cpy
            rw [if_neg (by omega)]
            exact hg3 k hk
        refine bg_X0 (st := ys) (m1 := m.set d (.inl (0, n1, .inl (va_cpy f g cs.toNatClampNeg cd.toNatClampNeg cw.toNatClampNeg)))) ?_ (b_wr0_ok hF hE hM hM1 hch) hs hM1 (b_same_of hW hch)
        · simp only [q_mem]
          rw [if_neg (by decide), if_pos trivial]
          unfold q_copy
          simp only
          rw [if_pos ⟨hfl.1, by omega, p5, p3, p1⟩]
          unfold q_cpy
          rw [hm1, hm2]
          simp only
          rw [if_pos ⟨trivial, trivial, by omega, by omega⟩]
      · rename_i t0 n0 u0 t1 n1 u1 hj hd1
        obtain ⟨y1, hm1, f, rfl, hf3⟩ := bi_get hM hj
        obtain ⟨y2, hm2, g, rfl, hg3⟩ := bi_get hM hd1
        split at h
        rotate_left
        · cases h
        rename_i hc
        obtain ⟨rfl, rfl, c3, c4, c5, c6, c7, c8, hW⟩ := hc
        cases h
        have k1 := b_ent_ok hE.2.1 hE.2.2.1 c4 hw
        have k2 := b_ent_ok hE.2.1 hE.2.2.1 c5 hd
        have k3 := b_ent_ok hE.2.1 hE.2.2.1 c6 hsp
        have k4 := b_ent_ok hE.2.1 hE.2.2.1 c7 (b_is_ad (k := -1) (b_is_ad (k := -1) (b_is_c (n0 : Int)) hsp) hw)
        have k5 := b_ent_ok hE.2.1 hE.2.2.1 c8 (b_is_ad (k := -1) (b_is_ad (k := -1) (b_is_c (n1 : Int)) hd) hw)
        obtain ⟨p1, p2⟩ := b_nn k1
        obtain ⟨p3, p4⟩ := b_nn k2
        obtain ⟨p5, p6⟩ := b_nn k3
        have hch := b_cpyL (f := f) (sp := cs.toNatClampNeg) (dp := cd.toNatClampNeg) (w := cw.toNatClampNeg) hm2 c3 (by omega)
        have hM1 : bi_M I (m.set d (.inl (1, n1, .inr (.inl (va_cpy f g cs.toNatClampNeg cd.toNatClampNeg cw.toNatClampNeg))))) := by
          refine bi_set hM hd1 ⟨_, rfl, fun k hk => ?_⟩
          unfold va_cpy
          rw [if_neg (by omega)]
          exact hg3 k hk
        refine bg_X0 (st := ys) (m1 := m.set d (.inl (1, n1, .inr (.inl (va_cpy f g cs.toNatClampNeg cd.toNatClampNeg cw.toNatClampNeg))))) ?_ (b_wr0_ok hF hE hM hM1 hch) hs hM1 (b_same_of hW hch)
        · simp only [q_mem]
          rw [if_neg (by decide), if_pos trivial]
          unfold q_copy
          simp only
          rw [if_pos ⟨hfl.1, by omega, p5, p3, p1⟩]
          unfold q_cpy
          rw [hm1, hm2]
          simp only
          rw [if_pos ⟨trivial, trivial, by omega, by omega⟩]
      · cases h
    · split at h
      · rename_i hn1 hn
        subst hn
        split at h
        rotate_left
        · cases h
        rename_i a r
        obtain ⟨y, ys, rfl, hy, hs1⟩ := g_ca hs
        have hy : y = .retAddr (a + 1) := hy
        subst hy
        split at h
        rotate_left
        · cases h
        rename_i x hx
        split at h
        rotate_left
        · cases h
        rename_i hc
        cases h
        have hac := bg_ac hs1
        exact bg_X0 (st := .int (Int32.ofNat x.2.2.2.length) :: ys) (by simp only [q_mem]; rw [if_neg (by decide), if_neg (by decide), if_pos trivial]; simp only [hx]; rw [if_pos ⟨hc.1, by omega, hc.2.2.1⟩]) hE ⟨⟨_, rfl, by rw [g_len hc.2.2.2]; exact b_is_c _⟩, hs1⟩ hM q_same.rf
      · split at h
        rotate_left
        · cases h
        rename_i hn1 hn2 hn
        subst hn
        split at h
        rotate_left
        · cases h
        rename_i j a r
        obtain ⟨y0, ys0, rfl, hy0, hs1⟩ := g_ca hs
        replace hs := hs1
        clear hs1
        obtain ⟨cj, rfl, hj⟩ := hy0
        obtain ⟨y, ys, rfl, hy, hs1⟩ := g_ca hs
        have hy : y = .retAddr (a + 1) := hy
        subst hy
        split at h
        rotate_left
        · cases h
        rename_i x hx
        split at h
        rotate_left
        · cases h
        rename_i hc
        obtain ⟨g1, g2, g3⟩ := b_idx_ok hE hc.2.2.2 hj
        have hac := bg_ac hs1
        have hz := g_and_r (x := x.2.2.2.getD cj.toNatClampNeg 0) (y := 255) (by decide)
        have hR := b_new_ok hE.1 hE.2.1 hE.2.2.1 (lg := false) (lo := 0) (hi := 255) hz.1 hz.2
        split at h
        rename_i k B C vv hvv
        cases h
        rw [hvv] at hR
        obtain ⟨t1, e1, e2, e3, e4, e5⟩ := hR
        obtain ⟨lg1, ee⟩ := vv
        simp only at e1 e2 e3 e4 e5
        subst e4
        refine ⟨_, List.mem_singleton.mpr rfl, t1, .int (x.2.2.2.getD cj.toNatClampNeg 0 &&& 255) :: ys, m, ?_, ⟨e1, e2, e3, fun o ho => bg_O_ext (hE.2.2.2.1 o ho), fun t ht => bg_Q_ext (hE.2.2.2.2 t ht)⟩, ⟨⟨_, rfl, e5⟩, bg_s_ext hs1⟩, hM, q_same.rf⟩
        simp only [q_mem]
        rw [if_neg (by decide), if_neg (by decide), if_neg (by decide), if_pos trivial]
        simp only [hx]
        rw [if_pos ⟨hc.1, by omega, hc.2.2.1, g1⟩]
  · cases h
end BMEMG
end
section
/-! THE CHECKER'S CONTROL: contracts, templates at loop heads, paths -/
abbrev b_F : Type := q_MI × List q_I × b_L × List b_V
abbrev b_S : Type := b_E × List b_F
abbrev b_A : Type := (Bool × Int × Int) ⊕ (Nat ⊕ Nat)
/-- an outcome: what is given back, the tokens then -/
abbrev b_U : Type := Option (Bool × Int × Int) × List b_Q
/-- a contract: the method, its arguments, outcomes, what it may write, the tokens that it needs -/
abbrev b_Con : Type := Nat × List b_A × List b_U × b_W × List b_Q
/-- a template: variables and what is known, locals, a measure -/
abbrev b_Te : Type := b_E × b_L × b_T
/-- a loop head: where, splits of locals, places that are read, templates -/
abbrev b_H : Type := Nat × List (Nat × Int) × List (Nat × Nat) × List b_Te
/-- rules proved by hand: tokens by writes, by pure steps; when a token holds by what is known; when a state can't be -/
abbrev b_Hk : Type := b_Sto × (Instr → List b_V → List b_V → List b_Q) × (b_E → Nat → List b_T → Bool) × (b_E → Bool) × (Nat → b_E → List b_V → List (List b_Q)) × b_Rdb
def b_isn (lg : Bool) (y : Value) (z : Int) : Prop := match lg with
  | false => ∃ w : Int32, y = .int w ∧ w.toInt = z
  | true => ∃ w : Int64, y = .long w ∧ w.toInt = z
/-- values that are as the arguments say; the numbers among them -/
def bc_args : List b_A → List Value → List Int → Prop
  | [], [], zs => zs = []
  | .inl (lg, lo, hi) :: as, y :: ys, z :: zs => b_isn lg y z ∧ lo ≤ z ∧ z ≤ hi ∧ bc_args as ys zs
  | .inr (.inl k) :: as, y :: ys, zs => y = .ref k ∧ bc_args as ys zs
  | .inr (.inr k) :: as, y :: ys, zs => y = .retAddr k ∧ bc_args as ys zs
  | _, _, _ => False
def bc_out (F : Nat → List Int → q_M → Prop) (zs : List Int) (m : q_M) (o : b_U) (r : Option Value) : Prop := match o.1, r with
  | none, none => ∀ t ∈ o.2, bg_Q F zs m t
  | some (lg, lo, hi), some y => ∃ z, b_isn lg y z ∧ lo ≤ z ∧ z ≤ hi ∧ ∀ t ∈ o.2, bg_Q F (zs ++ [z]) m t
  | _, _ => False
def bc_ok (G : q_G) (I : List b_I) (F : Nat → List Int → q_M → Prop) (c : b_Con) : Prop := ∀ M, (q_gM G)[c.1]? = some M → ∀ (ys : List Value) (zs : List Int) (m : q_M), bc_args c.2.1 ys zs → bi_M I m → (∀ t ∈ c.2.2.2.2, bg_Q F zs m t) →
  ∃ (n : Nat) (r : Option Value) (m1 : q_M), q_run G n M 0 (lv_args 0 ys) [] m = some (r, m1) ∧ bi_M I m1 ∧ q_same c.2.2.2.1 m m1 ∧ ∃ o ∈ c.2.2.1, bc_out F zs m1 o r
/-- what is known, with terms for the variables -/
def b_sbl (s : List b_T) : List (Nat × Int) → Option b_T
  | [] => some (b_c 0)
  | q :: l => match s[q.1]?, b_sbl s l with
    | some e, some r => some (b_ad r q.2 e)
    | _, _ => none
def b_sb (s : List b_T) (t : b_T) : Option b_T := match b_sbl s t.1 with
  | some r => some (r.1, r.2 + t.2)
  | none => none
def b_eqv (E : b_E) (a b : b_T) : Bool := decide (a = b) || (b_ent E.2.1 E.2.2.1 (b_ad a (-1) b) && b_ent E.2.1 E.2.2.1 (b_ad b (-1) a))
def b_drW (B : a_B) (mo : List b_O) (W : b_W) : List b_O := mo.filter (fun o => W.all (fun w => !(Nat.beq o.1 w.1 && b_ovl B o.2.1 w.2.1 w.2.2)))
def b_dtW (fp : Nat → b_W) (tk : List b_Q) (W : b_W) : List b_Q := tk.filter (fun t => W.all (fun w => b_apart (fp t.1) w.1 w.2.1 w.2.2))
def b_wrW (fp : Nat → b_W) (E : b_E) (W : b_W) : b_E := (E.1, E.2.1, E.2.2.1, b_drW E.2.1 E.2.2.2.1 W, b_dtW fp E.2.2.2.2 W)
/-- the arguments fit: the terms of the numbers -/
def b_fita (E : b_E) : List b_A → List b_V → Option (List b_T)
  | [], [] => some []
  | .inl (lg, lo, hi) :: as, .inl (lg1, e) :: xs => if lg = lg1 ∧ b_inb E e lo hi = true then (match b_fita E as xs with | some l => some (e :: l) | none => none) else none
  | .inr (.inl k) :: as, .inr (.inl j) :: xs => if k = j then b_fita E as xs else none
  | .inr (.inr k) :: as, .inr (.inr j) :: xs => if k = j then b_fita E as xs else none
  | _, _ => none
def b_eqvs (E : b_E) (s : List b_T) : List b_T → List b_T → Bool
  | [], [] => true
  | a :: as, b :: bs => (match b_sb s a with | some c => b_eqv E c b | none => false) && b_eqvs E s as bs
  | _, _ => false
def b_sbs (s : List b_T) : List b_T → Option (List b_T)
  | [] => some []
  | a :: as => match b_sb s a, b_sbs s as with
    | some b, some bs => some (b :: bs)
    | _, _ => none
/-- tokens asked for (over s) are there -/
def b_tks (hk : b_Hk) (E : b_E) (s : List b_T) (ts : List b_Q) : Bool := ts.all (fun t => E.2.2.2.2.any (fun u => Nat.beq t.1 u.1 && b_eqvs E s t.2 u.2) || (match b_sbs s t.2 with | some us => hk.2.2.1 E t.1 us | none => false))
def b_sbq (s : List b_T) : List b_Q → Option (List b_Q)
  | [] => some []
  | t :: ts => match b_sbs s t.2, b_sbq s ts with
    | some b, some bs => some ((t.1, b) :: bs)
    | _, _ => none
/-- the states behind a call, an outcome each -/
def b_outs (E : b_E) (s : List b_T) : List b_U → List b_V → Option (List b_X)
  | [], _ => some []
  | (none, ts) :: os, r => match b_sbq s ts, b_outs E s os r with
    | some q, some l => some (((E.1, E.2.1, E.2.2.1, E.2.2.2.1, q ++ E.2.2.2.2), r) :: l)
    | _, _ => none
  | (some (lg, lo, hi), ts) :: os, r => match b_new E.1 E.2.1 E.2.2.1 lg lo hi with
    | (k, B, C, v) => match b_sbq (s ++ [v.2]) ts, b_outs E s os r with
      | some q, some l => some (((k, B, C, E.2.2.2.1, q ++ E.2.2.2.2), .inl v :: r) :: l)
      | _, _ => none
def b_cw (W V : b_W) : Bool := V.all (fun w => b_inW W w.1 w.2.1 w.2.2)
/-- a call by the first contract that fits -/
def b_cons (hk : b_Hk) (fp : Nat → b_W) (W : b_W) (E : b_E) (k : Nat) (as rest : List b_V) : List b_Con → Option (List b_X)
  | [] => none
  | c :: cs => match Nat.beq c.1 k with
    | true => (match b_fita E c.2.1 as with
      | some s => if b_tks hk E s c.2.2.2.2 = true ∧ b_cw W c.2.2.2.1 = true then b_outs (b_wrW fp E c.2.2.2.1) s c.2.2.1 rest else b_cons hk fp W E k as rest cs
      | none => b_cons hk fp W E k as rest cs)
    | false => b_cons hk fp W E k as rest cs
/-- an argument cut at some numbers before the call: k, which (from the last), where -/
def b_cuts (x : b_T) : List Int → List (a_B × List b_T) → List (a_B × List b_T)
  | [], l => l
  | c :: cs, l => b_cuts x cs (l.flatMap (fun q => b_cmp q.1 q.2 .lt x (b_c c) ++ b_cmp q.1 q.2 .ge x (b_c c)))
def b_rcv (G : q_G) (I : List b_I) (M : q_MI) (as : List b_V) : Bool := match q_mK M with
  | 1 => true
  | 0 => (match as with | .inr (.inl a) :: _ => (match I[a]? with | some (.inr (ci, _)) => decide ((q_gC G)[ci]?.map (fun z => z.1) = some (q_mY M).cls) | _ => false) | _ => false)
  | _ => false
def b_lvs : Nat → List b_V → b_L
  | _, [] => []
  | i, v :: vs => (i, v) :: b_lvs (if b_cat v = 2 then i + 2 else i + 1) vs
def b_call (G : q_G) (I : List b_I) (M : q_MI) (k : Nat) (st : List b_V) : Option (q_MI × List b_V × List b_V) := match (q_gM G)[k]? with
  | none => none
  | some M1 => if q_na M1 ≤ st.length ∧ b_ac (st.drop (q_na M1)) ≤ 8 ∧ q_mF M1 + 1 ≤ q_mF M ∧ 8 + (q_mL M1 + 11) + q_mO M1 ≤ q_mO M ∧ b_ac (st.take (q_na M1)) ≤ q_mL M1 ∧ b_rcv G I M1 (st.take (q_na M1)).reverse = true
    then some (M1, (st.take (q_na M1)).reverse, st.drop (q_na M1)) else none
/-- what a method gives back: on the caller's stack -/
def b_ret (B : a_B) (M : q_MI) (i : Instr) (st : List b_V) : Option (List b_V) := match i with
  | .ireturn => (match st with | [.inl (false, x)] => (match q_mR M with | some .int => some [.inl (false, x)] | some .boolean => if b_within B x 0 1 = true then some [.inl (false, x)] else none | _ => none) | _ => none)
  | .lreturn => (match st with | [.inl (true, x)] => if q_mR M = some .long then some [.inl (true, x)] else none | _ => none)
  | .return_ => (match st with | [] => if q_mR M = none then some [] else none | _ => none)
  | _ => none
/-- a token of the outcome is there: its terms are numbers, or by what is given back (the variable nA) -/
def b_eqr (E : b_E) (nA : Nat) (x : Option b_T) : List b_T → List b_T → Bool
  | [], [] => true
  | a :: as, b :: bs => (match a.1, x with
    | [], _ => b_eqv E a b
    | [q], some y => Nat.beq q.1 nA && decide (q.2 = 1) && b_eqv E (y.1, y.2 + a.2) b
    | _, _ => false) && b_eqr E nA x as bs
  | _, _ => false
def b_sbr (nA : Nat) (x : Option b_T) : List b_T → Option (List b_T)
  | [] => some []
  | a :: as => match (match a.1, x with
      | [], _ => some a
      | [q], some y => if q.1 = nA ∧ q.2 = 1 then some (y.1, y.2 + a.2) else none
      | _, _ => none), b_sbr nA x as with
    | some b, some bs => some (b :: bs)
    | _, _ => none
def b_ctk (hk : b_Hk) (E : b_E) (nA : Nat) (x : Option b_T) (ts : List b_Q) : Bool := ts.all (fun t => E.2.2.2.2.any (fun u => Nat.beq t.1 u.1 && b_eqr E nA x t.2 u.2) || (match b_sbr nA x t.2 with | some us => hk.2.2.1 E t.1 us && us.all (fun e => (b_iv E.2.1 e).isSome) | none => false))
def b_fin (hk : b_Hk) (E0 : b_E) (os : Nat × List b_U) (r : List b_V) : Bool := hk.2.2.2.1 E0 || os.2.any (fun o => match o.1, r with
  | none, [] => b_ctk hk E0 os.1 none o.2
  | some (lg, lo, hi), [.inl (lg1, x)] => (match lg, lg1 with | true, true => true | false, false => true | _, _ => false) && b_inb E0 x lo hi && b_ctk hk E0 os.1 (some x) o.2
  | _, _ => false)
/-- a template's variables, read off the state -/
def b_dv (c : Int) (l : List (Nat × Int)) : List (Nat × Int) := match l with
  | [] => []
  | q :: l => (q.1, q.2 / c) :: b_dv c l
def b_sg1 (t w : b_T) : List (Nat × b_T) := match t.1 with
  | [q] => if q.2 = 1 then [(q.1, (w.1, w.2 - t.2))] else [(q.1, (b_dv q.2 w.1, (w.2 - t.2) / q.2))]
  | _ => []
def b_sgl (l : b_L) : b_L → List (Nat × b_T)
  | [] => []
  | (k, .inl (_, t)) :: tl => (match b_get l k with | some (.inl (_, w)) => b_sg1 t w | _ => []) ++ b_sgl l tl
  | _ :: tl => b_sgl l tl
def b_sgm (mo : List b_O) : List b_O → List (Nat × b_T)
  | [] => []
  | o :: tl => (match b_mo mo o.1 o.2.1 with | some w => b_sg1 o.2.2.2 w.2 | none => []) ++ b_sgm mo tl
def b_sgz : List b_T → List b_T → List (Nat × b_T)
  | t :: ts, w :: ws => b_sg1 t w ++ b_sgz ts ws
  | _, _ => []
def b_sgt (tk : List b_Q) : List b_Q → List (Nat × b_T)
  | [] => []
  | u :: us => (match tk.find? (fun w => Nat.beq w.1 u.1) with | some w => b_sgz u.2 w.2 | none => []) ++ b_sgt tk us
def b_asc (l : List (Nat × b_T)) (i : Nat) : b_T := match l with
  | [] => b_c 0
  | q :: l => match Nat.beq q.1 i with
    | true => q.2
    | false => b_asc l i
def b_mks (l : List (Nat × b_T)) : Nat → Nat → List b_T
  | _, 0 => []
  | i, n + 1 => b_asc l i :: b_mks l (i + 1) n
def b_okl (E : b_E) (s : List b_T) (l : b_L) : b_L → Bool
  | [] => true
  | (k, x) :: tl => (match x, b_get l k with
    | .inl (lg, t), some (.inl (lg1, w)) => (match lg, lg1 with | true, true => true | false, false => true | _, _ => false) && (match b_sb s t with | some c => b_eqv E c w | none => false)
    | .inr (.inl a), some (.inr (.inl b)) => Nat.beq a b
    | .inr (.inr a), some (.inr (.inr b)) => Nat.beq a b
    | _, _ => false) && b_okl E s l tl
def b_okm (E : b_E) (s : List b_T) : List b_O → Bool
  | [] => true
  | o :: tl => (match o.2.1.1, b_mo E.2.2.2.1 o.1 o.2.1 with
    | [], some w => (match o.2.2.1, w.1 with | true, true => true | false, false => true | _, _ => false) && (match b_sb s o.2.2.2 with | some c => b_eqv E c w.2 | none => false)
    | _, _ => false) && b_okm E s tl
def b_fits (hk : b_Hk) (E : b_E) (l : b_L) (mu0 : Option b_T) (T : b_Te) : Bool :=
  let s := b_mks (b_sgl l T.2.1 ++ (b_sgm E.2.2.2.1 T.1.2.2.2.1 ++ b_sgt E.2.2.2.2 T.1.2.2.2.2)) 0 T.1.1
  s.all (fun t => (b_iv E.2.1 t).isSome) && b_okl E s l T.2.1 && b_okm E s T.1.2.2.2.1 && b_tks hk E s T.1.2.2.2.2
    && T.1.2.1.all (fun q => match s[q.1]? with | some t => b_inb E t q.2.1 q.2.2 | none => false)
    && T.1.2.2.1.all (fun c => match b_sb s c with | some t => b_ent E.2.1 E.2.2.1 t | none => false)
    && (match mu0 with
      | none => true
      | some u => match b_sb s T.2.2 with
        | some t => b_ent E.2.1 E.2.2.1 (b_ad (u.1, u.2 - 1) (-1) t)
        | none => false)
/-- locals cut at numbers -/
def b_tkl (tk : List b_Q) (id : Nat) : Option b_T := match tk with
  | [] => none
  | u :: tk => match Nat.beq u.1 id with
    | true => u.2.getLast?
    | false => b_tkl tk id
def b_spx (l : b_L) (tk : List b_Q) (k : Nat) : Option b_T := match b_get l k with
  | some (.inl (_, x)) => some x
  | some _ => none
  | none => b_tkl tk (k - 1000)
def b_spl (l : b_L) (tk : List b_Q) : List (Nat × Int) → List (a_B × List b_T) → List (a_B × List b_T)
  | [], qs => qs
  | (k, c) :: cs, qs => (match b_spx l tk k with | some x => b_spl l tk cs (qs.flatMap (fun q => b_cmp q.1 q.2 .lt x (b_c c) ++ b_cmp q.1 q.2 .ge x (b_c c))) | none => b_spl l tk cs qs)
/-- fields that a template speaks of are read -/
def b_tou (I : List b_I) : List (Nat × Nat) → b_E → b_E
  | [], E => E
  | (a, j) :: l, E => match I[a]? with
    | some (.inr (_, fs)) => (match fs[j]? with
      | some (.inl (lg, lo, hi)) => b_tou I l (b_rd E a (b_c (j : Int)) lg lo hi []).1
      | _ => b_tou I l E)
    | some (.inl (_, n, .inl (ex, lo, hi))) => if j < n then b_tou I l (b_rd E a (b_c (j : Int)) false (b_bnd E.2.1 ex lo hi (b_c (j : Int))).1 (b_bnd E.2.1 ex lo hi (b_c (j : Int))).2 []).1 else b_tou I l E
    | _ => b_tou I l E
def b_arr (hk : b_Hk) (I : List b_I) (E : b_E) (l : b_L) (mu0 : Option b_T) (h : b_H) : Bool := (b_spl l E.2.2.2.2 h.2.1 [(E.2.1, E.2.2.1)]).all (fun q => match b_tou I h.2.2.1 (E.1, q.1, q.2, E.2.2.2) with | E2 => hk.2.2.2.1 E2 || h.2.2.2.any (fun T => b_fits hk E2 l mu0 T))
def b_hd (hs : List b_H) (pc : Nat) : Option b_H := match hs with
  | [] => none
  | h :: hs => match Nat.beq h.1 pc with
    | true => some h
    | false => b_hd hs pc
def b_lk (i : Instr) (st : List b_V) : Option (List b_V) := match i with
  | .sipush n => some (.inl (false, b_c (Int32.ofInt n).toInt) :: st)
  | .jsr_w n => some (.inl (true, b_c (Int64.ofInt n).toInt) :: st)
  | .ldc n => some (.inr (.inr (n + 1)) :: st)
  | _ => none
def b_nxt (M : q_MI) (tl : List q_I) (fs : List b_F) (mo : List b_O) (tk : List b_V → List b_Q) : List b_P → Option (List b_S)
  | [] => some []
  | p :: ps => match a_at M tl p.2.2.2.1, b_nxt M tl fs mo tk ps with
    | some c, some l => some (((p.1, p.2.1, p.2.2.1, mo, tk p.2.2.2.2.2), (M, c, p.2.2.2.2.1, p.2.2.2.2.2) :: fs) :: l)
    | _, _ => none
/-- what a checking is about: methods to be followed into, contracts, cuts (method, which argument, where), what may be written, outcomes, loop heads, the measure at the start -/
abbrev b_Z : Type := List Nat × List b_Con × List (Nat × Nat × List Int) × b_W × (Nat × List b_U) × List b_H × Option b_T
def b_cutl (k : Nat) (as : List b_V) : List (Nat × Nat × List Int) → List (a_B × List b_T) → List (a_B × List b_T)
  | [], l => l
  | c :: cs, l => match Nat.beq c.1 k with
    | true => (match as[c.2.1]? with
      | some (.inl (_, x)) => b_cutl k as cs (b_cuts x c.2.2 l)
      | _ => b_cutl k as cs l)
    | false => b_cutl k as cs l
/-- the cases before a call: numbers cut, tokens that say one or the other -/
def b_cut2 (hk : b_Hk) (Z : b_Z) (E : b_E) (k : Nat) (as : List b_V) : List b_E :=
  (b_cutl k as Z.2.2.1 [(E.2.1, E.2.2.1)]).flatMap (fun q => match ((E.1, q.1, q.2, E.2.2.2) : b_E) with
    | E1 => (match hk.2.2.2.2.1 k E1 as with
      | [] => [E1]
      | al => al.map (fun ts => (E1.1, E1.2.1, E1.2.2.1, E1.2.2.2.1, ts ++ E1.2.2.2.2))))
def b_calls (hk : b_Hk) (fp : Nat → b_W) (Z : b_Z) (k : Nat) (as rest : List b_V) : List b_E → Option (List b_X)
  | [] => some []
  | E :: Es => match (if hk.2.2.2.1 E = true then some [] else b_cons hk fp Z.2.2.2.1 E k as rest Z.2.1), b_calls hk fp Z k as rest Es with
    | some a, some b => some (a ++ b)
    | _, _ => none
def b_sti (hk : b_Hk) (i : Instr) (E : b_E) : Bool := match i with
  | .iastore => hk.2.2.2.1 E
  | .iaload => hk.2.2.2.1 E
  | _ => false
def b_step (hk : b_Hk) (G : q_G) (I : List b_I) (fp : Nat → b_W) (Z : b_Z) (chk : Bool) (S : b_S) : Option (List b_S) := match S with
  | (_, []) => none
  | (_, (_, [], _, _) :: _) => none
  | (E, (M, (pc, _, len, i, _) :: tl, l, st) :: fs) => match (match chk, fs with | true, [] => b_hd Z.2.2.2.2.2.1 pc | _, _ => none) with
    | some h => (match st with | [] => if b_arr hk I E l Z.2.2.2.2.2.2 h = true then some [] else none | _ => none)
    | none => match q_grp i with
      | 0 => (match b_pure E.1 E.2.1 E.2.2.1 (q_mL M) pc len i l st with | some ps => b_nxt M tl fs E.2.2.2.1 (fun st1 => hk.2.1 i st st1 ++ E.2.2.2.2) ps | none => none)
      | 1 => if b_sti hk i E = true then some [] else (match a_at M tl (pc + len), b_mem G I Z.2.2.2.1 fp hk.1 hk.2.2.2.2.2 (q_mF M) (q_mO M) i E st with | some c, some xs => some (xs.map (fun x => (x.1, (M, c, l, x.2) :: fs))) | _, _ => none)
      | 2 => none
      | 3 => (match q_cnum i with
          | some k => (match a_at M tl (pc + len), b_call G I M k st with
              | some c, some (M1, as, rest) => if Z.1.any (fun j => Nat.beq j k) then (match a_at M1 (q_mC M1) 0 with | some c1 => some [(E, (M1, c1, b_lvs 0 as, []) :: (M, c, l, rest) :: fs)] | none => none)
                else (match b_calls hk fp Z k as rest (b_cut2 hk Z E k as) with | some xs => some (xs.map (fun x => (x.1, (M, c, l, x.2) :: fs))) | none => none)
              | _, _ => none)
          | none => (match b_ret E.2.1 M i st with
              | some r => (match fs with
                  | [] => if b_fin hk E Z.2.2.2.2.1 r = true then some [] else none
                  | (M2, c2, l2, st2) :: fs2 => some [(E, (M2, c2, l2, r ++ st2) :: fs2)])
              | none => none))
      | _ => (match a_at M tl (pc + len), b_lk i st with | some c, some st1 => some [(E, (M, c, l, st1) :: fs)] | _, _ => none)
noncomputable def b_run (hk : b_Hk) (G : q_G) (I : List b_I) (fp : Nat → b_W) (Z : b_Z) (n : Nat) : b_S → Bool := Nat.rec (motive := fun _ => b_S → Bool) (fun _ => false) (fun _ ih S => match b_step hk G I fp Z true S with
  | none => false
  | some [] => true
  | some [S1] => ih S1
  | some Ss => Ss.all ih) n
/-- from a start, one step without looking for a loop head -/
noncomputable def b_from (hk : b_Hk) (G : q_G) (I : List b_I) (fp : Nat → b_W) (Z : b_Z) (n : Nat) (S : b_S) : Bool := match b_step hk G I fp Z false S with
  | none => false
  | some Ss => Ss.all (b_run hk G I fp Z n)
def bg_Hk (I : List b_I) (F : Nat → List Int → q_M → Prop) (hk : b_Hk) : Prop := bg_Sto I F hk.1
  ∧ (∀ (v : List Int) (nL pc len : Nat) (i : Instr) (l : q_L) (st : List Value) (pc1 : Nat) (l1 : q_L) (st1 : List Value) (sa sa1 : List b_V) (m : q_M), bg_s v sa st → bg_s v sa1 st1 → q_pure nL pc len i l st = some (pc1, l1, st1) → ∀ t ∈ hk.2.1 i sa sa1, bg_Q F v m t)
  ∧ (∀ (v : List Int) (E : b_E) (m : q_M) (id : Nat) (us : List b_T) (zs : List Int), bg_E F v E m → bi_M I m → g_2 (b_is v) us zs → hk.2.2.1 E id us = true → F id zs m)
  ∧ (∀ (v : List Int) (E : b_E) (m : q_M), bg_E F v E m → bi_M I m → ¬ hk.2.2.2.1 E = true)
  ∧ (∀ (v : List Int) (k : Nat) (E : b_E) (as : List b_V) (m : q_M), bg_E F v E m → bi_M I m → hk.2.2.2.2.1 k E as ≠ [] → ∃ ts ∈ hk.2.2.2.2.1 k E as, ∀ t ∈ ts, bg_Q F v m t)
  ∧ bg_Rdb I F hk.2.2.2.2.2
end
section
theorem b_sbl_ok {v zs : List Int} {s : List b_T} (hs : g_2 (b_is v) s zs) : ∀ {l : List (Nat × Int)} {r : b_T}, b_sbl s l = some r → ∃ z, b_vs zs l = some z ∧ b_is v r z
  | [], r, h => by
    cases h
    exact ⟨0, rfl, b_is_c 0⟩
  | q :: l, r, h => by
    unfold b_sbl at h
    split at h
    rotate_left
    · cases h
    rename_i e r1 h1 h2
    cases h
    obtain ⟨w, w1, w2⟩ := g_2_get hs h1
    obtain ⟨z, z1, z2⟩ := b_sbl_ok hs h2
    refine ⟨q.2 * w + z, b_vs_cons.mpr ⟨w, z, w1, z1, rfl⟩, ?_⟩
    have := b_is_ad (k := q.2) z2 w2
    rw [Int.add_comm] at this
    exact this
theorem b_sb_ok {v zs : List Int} {s : List b_T} (hs : g_2 (b_is v) s zs) {t t1 : b_T} (h : b_sb s t = some t1) : ∃ z, b_is zs t z ∧ b_is v t1 z := by
  unfold b_sb at h
  split at h
  rotate_left
  · cases h
  rename_i r hr
  cases h
  obtain ⟨z, z1, z2⟩ := b_sbl_ok hs hr
  refine ⟨z + t.2, ⟨z, z1, rfl⟩, ?_⟩
  obtain ⟨s1, e1, e2⟩ := z2
  exact ⟨s1, e1, by show z + t.2 = s1 + (r.2 + t.2); omega⟩
section BCTL
variable {F : Nat → List Int → q_M → Prop} {fp : Nat → b_W} {v : List Int} {E : b_E} {m : q_M} {I : List b_I} {G : q_G}
theorem b_eqv_ok (hE : bg_E F v E m) {a b : b_T} {x y : Int} (h : b_eqv E a b = true) (ha : b_is v a x) (hb : b_is v b y) : x = y := by
  unfold b_eqv at h
  rw [Bool.or_eq_true, decide_eq_true_eq, Bool.and_eq_true] at h
  rcases h with rfl | ⟨h1, h2⟩
  · exact b_is_uniq ha hb
  · have k1 := b_ent_ok hE.2.1 hE.2.2.1 h1 (b_is_ad (k := -1) ha hb)
    have k2 := b_ent_ok hE.2.1 hE.2.2.1 h2 (b_is_ad (k := -1) hb ha)
    omega
theorem b_fita_ok (hE : bg_E F v E m) : ∀ {as : List b_A} {xs : List b_V} {ys : List Value} {ts : List b_T}, bg_s v xs ys → b_fita E as xs = some ts → ∃ zs, bc_args as ys zs ∧ g_2 (b_is v) ts zs
  | [], [], [], ts, _, h => by
    cases h
    exact ⟨[], rfl, trivial⟩
  | .inl (lg, lo, hi) :: as, .inl (lg1, e) :: xs, y :: ys, ts, hs, h => by
    unfold b_fita at h
    split at h
    rotate_left
    · cases h
    rename_i hc
    obtain ⟨rfl, hc⟩ := hc
    split at h
    rotate_left
    · cases h
    rename_i l hl
    cases h
    obtain ⟨zs, h1, h2⟩ := b_fita_ok hE hs.2 hl
    cases lg with
    | false =>
      obtain ⟨z, rfl, hz⟩ := hs.1
      have := b_inb_ok hE hc hz
      exact ⟨z.toInt :: zs, ⟨⟨z, rfl, rfl⟩, this.1, this.2, h1⟩, hz, h2⟩
    | true =>
      obtain ⟨z, rfl, hz⟩ := hs.1
      have := b_inb_ok hE hc hz
      exact ⟨z.toInt :: zs, ⟨⟨z, rfl, rfl⟩, this.1, this.2, h1⟩, hz, h2⟩
  | .inr (.inl k) :: as, .inr (.inl j) :: xs, y :: ys, ts, hs, h => by
    unfold b_fita at h
    split at h
    rotate_left
    · cases h
    rename_i hc
    obtain ⟨zs, h1, h2⟩ := b_fita_ok hE hs.2 h
    have hy : y = .ref j := hs.1
    exact ⟨zs, ⟨by rw [hy, hc], h1⟩, h2⟩
  | .inr (.inr k) :: as, .inr (.inr j) :: xs, y :: ys, ts, hs, h => by
    unfold b_fita at h
    split at h
    rotate_left
    · cases h
    rename_i hc
    obtain ⟨zs, h1, h2⟩ := b_fita_ok hE hs.2 h
    have hy : y = .retAddr j := hs.1
    exact ⟨zs, ⟨by rw [hy, hc], h1⟩, h2⟩
  | [], _ :: _, _, _, _, h => by simp [b_fita] at h
  | _ :: _, [], _, _, _, h => by simp [b_fita] at h
  | [], [], _ :: _, _, hs, _ => hs.elim
  | _ :: _, _ :: _, [], _, hs, _ => hs.elim
  | .inl _ :: _, .inr _ :: _, _ :: _, _, _, h => by simp [b_fita] at h
  | .inr (.inl _) :: _, .inl _ :: _, _ :: _, _, _, h => by simp [b_fita] at h
  | .inr (.inr _) :: _, .inl _ :: _, _ :: _, _, _, h => by simp [b_fita] at h
  | .inr (.inl _) :: _, .inr (.inr _) :: _, _ :: _, _, _, h => by simp [b_fita] at h
  | .inr (.inr _) :: _, .inr (.inl _) :: _, _ :: _, _, _, h => by simp [b_fita] at h
theorem b_eqvs_ok (hE : bg_E F v E m) {s : List b_T} {zs : List Int} (hs : g_2 (b_is v) s zs) : ∀ {as bs : List b_T} {ys : List Int}, b_eqvs E s as bs = true → g_2 (b_is v) bs ys → g_2 (b_is zs) as ys
  | [], [], [], _, _ => trivial
  | a :: as, b :: bs, y :: ys, h, hb => by
    unfold b_eqvs at h
    rw [Bool.and_eq_true] at h
    refine ⟨?_, b_eqvs_ok hE hs h.2 hb.2⟩
    have h1 := h.1
    split at h1
    · rename_i c hc
      obtain ⟨z, z1, z2⟩ := b_sb_ok hs hc
      have := b_eqv_ok hE h1 z2 hb.1
      subst this
      exact z1
    · cases h1
  | [], [], _ :: _, _, hb => hb.elim
  | [], _ :: _, _, h, _ => by simp [b_eqvs] at h
  | _ :: _, [], _, h, _ => by simp [b_eqvs] at h
  | _ :: _, _ :: _, [], _, hb => hb.elim
theorem b_sbs_ok {s : List b_T} {zs : List Int} (hs : g_2 (b_is v) s zs) : ∀ {as bs : List b_T} {ys : List Int}, b_sbs s as = some bs → g_2 (b_is zs) as ys → g_2 (b_is v) bs ys
  | [], bs, [], h, _ => by
    cases h
    trivial
  | a :: as, bs, y :: ys, h, hy => by
    unfold b_sbs at h
    split at h
    rotate_left
    · cases h
    rename_i b bs1 h1 h2
    cases h
    obtain ⟨z, z1, z2⟩ := b_sb_ok hs h1
    have := b_is_uniq z1 hy.1
    subst this
    exact ⟨z2, b_sbs_ok hs h2 hy.2⟩
  | [], _, _ :: _, _, hy => hy.elim
  | _ :: _, _, [], _, hy => hy.elim
theorem b_sbs_ex {s : List b_T} {zs : List Int} (hs : g_2 (b_is v) s zs) : ∀ {as bs : List b_T}, b_sbs s as = some bs → ∃ ys, g_2 (b_is zs) as ys ∧ g_2 (b_is v) bs ys
  | [], bs, h => by
    cases h
    exact ⟨[], trivial, trivial⟩
  | a :: as, bs, h => by
    unfold b_sbs at h
    split at h
    rotate_left
    · cases h
    rename_i b bs1 h1 h2
    cases h
    obtain ⟨z, z1, z2⟩ := b_sb_ok hs h1
    obtain ⟨ys, y1, y2⟩ := b_sbs_ex hs h2
    exact ⟨z :: ys, ⟨z1, y1⟩, z2, y2⟩
theorem b_tks_ok {hk : b_Hk} (hH : bg_Hk I F hk) (hE : bg_E F v E m) (hM : bi_M I m) {s : List b_T} {zs : List Int} (hs : g_2 (b_is v) s zs) {ts : List b_Q} (h : b_tks hk E s ts = true) : ∀ t ∈ ts, bg_Q F zs m t := by
  intro t ht
  have h0 := List.all_eq_true.mp h t ht
  rw [Bool.or_eq_true] at h0
  rcases h0 with h0 | h0
  · obtain ⟨u, hu, h1⟩ := List.any_eq_true.mp h0
    rw [Bool.and_eq_true] at h1
    obtain ⟨ys, y1, y2⟩ := hE.2.2.2.2 u hu
    refine ⟨ys, b_eqvs_ok hE hs h1.2 y1, ?_⟩
    rw [Nat.eq_of_beq_eq_true h1.1]
    exact y2
  · split at h0
    rotate_left
    · cases h0
    rename_i us hus
    obtain ⟨ys, y1, y2⟩ := b_sbs_ex hs hus
    exact ⟨ys, y1, hH.2.2.1 v E m t.1 us ys hE hM y2 h0⟩
theorem b_sbq_ok {s : List b_T} {zs : List Int} (hs : g_2 (b_is v) s zs) : ∀ {ts us : List b_Q}, b_sbq s ts = some us → (∀ t ∈ ts, bg_Q F zs m t) → ∀ u ∈ us, bg_Q F v m u
  | [], us, h, _, u, hu => by
    cases h
    cases hu
  | t :: ts, us, h, ht, u, hu => by
    unfold b_sbq at h
    split at h
    rotate_left
    · cases h
    rename_i b bs h1 h2
    cases h
    rcases List.mem_cons.mp hu with rfl | hu
    · obtain ⟨ys, y1, y2⟩ := ht t List.mem_cons_self
      exact ⟨ys, b_sbs_ok hs h1 y1, y2⟩
    · exact b_sbq_ok hs h2 (fun x hx => ht x (List.mem_cons_of_mem _ hx)) u hu
theorem b_wrW_ok (hF : bg_F I fp F) {W : b_W} {m1 : q_M} (hM : bi_M I m) (hM1 : bi_M I m1) (hE : bg_E F v E m) (hm : q_same W m m1) : bg_E F v (b_wrW fp E W) m1 := by
  refine ⟨hE.1, hE.2.1, hE.2.2.1, ?_, ?_⟩
  · intro o ho
    obtain ⟨h1, h2⟩ := List.mem_filter.mp ho
    obtain ⟨j, h3, h4⟩ := hE.2.2.2.1 o h1
    refine ⟨j, h3, ?_⟩
    rw [hm]
    · exact h4
    · rintro ⟨w, hw, e1, e2, e3⟩
      have h5 := List.all_eq_true.mp h2 w hw
      rw [e1, Nat.beq_refl, Bool.true_and, Bool.not_eq_true'] at h5
      unfold b_ovl at h5
      split at h5
      · rename_i p hp
        have := b_iv_ok hE.2.1 hp h3
        simp only [decide_eq_false_iff_not] at h5
        omega
      · cases h5
  · intro t ht
    obtain ⟨h1, h2⟩ := List.mem_filter.mp ht
    obtain ⟨zs, h3, h4⟩ := hE.2.2.2.2 t h1
    refine ⟨zs, h3, hF _ _ _ _ hM hM1 ?_ h4⟩
    rintro c j ⟨w, hw, e1, e2, e3⟩
    refine hm c j ?_
    rintro ⟨u, hu, e4, e5, e6⟩
    have h5 := List.all_eq_true.mp (List.all_eq_true.mp h2 u hu) w hw
    rw [e1, e4, Nat.beq_refl, Bool.true_and, Bool.not_eq_true', decide_eq_false_iff_not] at h5
    omega
theorem b_outs_ok {s : List b_T} {zs : List Int} (hE : bg_E F v E m) (hs : g_2 (b_is v) s zs) {rest : List b_V} {st : List Value} (hr : bg_s v rest st) {r : Option Value} {o : b_U} (ho : bc_out F zs m o r) : ∀ {os : List b_U} {xs : List b_X}, b_outs E s os rest = some xs → o ∈ os → ∃ x ∈ xs, ∃ t, bg_E F (v ++ t) x.1 m ∧ bg_s (v ++ t) x.2 (r.toList ++ st)
  | [], xs, h, hm => by cases hm
  | (none, ts) :: os, xs, h, hm => by
    unfold b_outs at h
    split at h
    rotate_left
    · cases h
    rename_i q l hq hl
    cases h
    rcases List.mem_cons.mp hm with rfl | hm
    · match r, ho with
      | none, ho =>
        refine ⟨_, List.mem_cons_self, [], ?_, by simpa using hr⟩
        simp only [List.append_nil]
        refine ⟨hE.1, hE.2.1, hE.2.2.1, hE.2.2.2.1, ?_⟩
        intro t ht
        rcases List.mem_append.mp ht with ht | ht
        · exact b_sbq_ok hs hq ho t ht
        · exact hE.2.2.2.2 t ht
    · obtain ⟨x, hx, h1⟩ := b_outs_ok hE hs hr ho hl hm
      exact ⟨x, List.mem_cons_of_mem _ hx, h1⟩
  | (some (lg, lo, hi), ts) :: os, xs, h, hm => by
    unfold b_outs at h
    split at h
    rename_i k B C w hw
    split at h
    rotate_left
    · cases h
    rename_i q l hq hl
    cases h
    rcases List.mem_cons.mp hm with rfl | hm
    · match r, ho with
      | some y, ho =>
        obtain ⟨z, z1, z2, z3, z4⟩ := ho
        have hR := b_new_ok hE.1 hE.2.1 hE.2.2.1 (lg := lg) z2 z3
        rw [hw] at hR
        obtain ⟨t, g1, g2, g3, g4, g5⟩ := hR
        obtain ⟨lg1, e⟩ := w
        simp only at g1 g2 g3 g4 g5
        subst g4
        refine ⟨_, List.mem_cons_self, t, ⟨g1, g2, g3, fun o ho => bg_O_ext (hE.2.2.2.1 o ho), ?_⟩, ⟨?_, bg_s_ext hr⟩⟩
        · intro u hu
          rcases List.mem_append.mp hu with hu | hu
          · have hs2 : g_2 (b_is (v ++ t)) (s ++ [e]) (zs ++ [z]) := g_2_app (g_2_mono (fun _ _ => b_is_ext) hs) ⟨g5, trivial⟩
            exact b_sbq_ok hs2 hq z4 u hu
          · exact bg_Q_ext (hE.2.2.2.2 u hu)
        · cases lg1 with
          | false =>
            obtain ⟨w, rfl, rfl⟩ := z1
            exact ⟨w, rfl, g5⟩
          | true =>
            obtain ⟨w, rfl, rfl⟩ := z1
            exact ⟨w, rfl, g5⟩
    · obtain ⟨x, hx, h1⟩ := b_outs_ok hE hs hr ho hl hm
      exact ⟨x, List.mem_cons_of_mem _ hx, h1⟩
theorem b_cons_ok {hk : b_Hk} {W : b_W} {k : Nat} {as rest : List b_V} : ∀ {cs : List b_Con} {xs : List b_X}, b_cons hk fp W E k as rest cs = some xs → ∃ c ∈ cs, c.1 = k ∧ ∃ s, b_fita E c.2.1 as = some s ∧ b_tks hk E s c.2.2.2.2 = true ∧ b_cw W c.2.2.2.1 = true ∧ b_outs (b_wrW fp E c.2.2.2.1) s c.2.2.1 rest = some xs
  | [], xs, h => by simp [b_cons] at h
  | c :: cs, xs, h => by
    have next : b_cons hk fp W E k as rest cs = some xs → ∃ d ∈ c :: cs, d.1 = k ∧ ∃ s, b_fita E d.2.1 as = some s ∧ b_tks hk E s d.2.2.2.2 = true ∧ b_cw W d.2.2.2.1 = true ∧ b_outs (b_wrW fp E d.2.2.2.1) s d.2.2.1 rest = some xs := fun h => by
      obtain ⟨d, hd, h1⟩ := b_cons_ok h
      exact ⟨d, List.mem_cons_of_mem _ hd, h1⟩
    unfold b_cons at h
    split at h
    · rename_i hk
      split at h
      · rename_i s hs
        split at h
        · rename_i hc
          exact ⟨c, List.mem_cons_self, Nat.eq_of_beq_eq_true hk, s, hs, hc.1, hc.2, h⟩
        · exact next h
      · exact next h
    · exact next h
theorem b_cut_ok {x : b_T} {z : Int} (hx : b_is v x z) {c : Int} {l : List (a_B × List b_T)} (h : ∃ q ∈ l, g_B v q.1 ∧ bg_C v q.2) : ∃ q ∈ l.flatMap (fun q => b_cmp q.1 q.2 .lt x (b_c c) ++ b_cmp q.1 q.2 .ge x (b_c c)), g_B v q.1 ∧ bg_C v q.2 := by
  obtain ⟨q, hq, h1, h2⟩ := h
  by_cases hc : z < c
  · obtain ⟨p, p1, p2, p3⟩ := b_cmp_ok (c := .lt) h1 h2 hx (b_is_c c) hc
    exact ⟨p, List.mem_flatMap.mpr ⟨q, hq, List.mem_append_left _ p1⟩, p2, p3⟩
  · obtain ⟨p, p1, p2, p3⟩ := b_cmp_ok (c := .ge) h1 h2 hx (b_is_c c) (by show c ≤ z; omega)
    exact ⟨p, List.mem_flatMap.mpr ⟨q, hq, List.mem_append_right _ p1⟩, p2, p3⟩
theorem b_cuts_ok {x : b_T} {z : Int} (hx : b_is v x z) : ∀ {cs : List Int} {l : List (a_B × List b_T)}, (∃ q ∈ l, g_B v q.1 ∧ bg_C v q.2) → ∃ q ∈ b_cuts x cs l, g_B v q.1 ∧ bg_C v q.2
  | [], l, h => h
  | c :: cs, l, h => by
    unfold b_cuts
    exact b_cuts_ok hx (b_cut_ok hx h)
theorem b_cutl_ok {k : Nat} {as : List b_V} {ys : List Value} (hs : bg_s v as ys) : ∀ {cs : List (Nat × Nat × List Int)} {l : List (a_B × List b_T)}, (∃ q ∈ l, g_B v q.1 ∧ bg_C v q.2) → ∃ q ∈ b_cutl k as cs l, g_B v q.1 ∧ bg_C v q.2
  | [], l, h => h
  | c :: cs, l, h => by
    unfold b_cutl
    split
    · split
      · rename_i lg x hx
        obtain ⟨y, hy, hv⟩ := g_2_get hs hx
        have hz : ∃ z, b_is v x z := by
          cases lg with
          | false => obtain ⟨z, -, hz⟩ := hv; exact ⟨_, hz⟩
          | true => obtain ⟨z, -, hz⟩ := hv; exact ⟨_, hz⟩
        obtain ⟨z, hz⟩ := hz
        exact b_cutl_ok hs (b_cuts_ok hz h)
      · exact b_cutl_ok hs h
    · exact b_cutl_ok hs h
theorem b_cut2_ok {hk : b_Hk} (hH : bg_Hk I F hk) (hM : bi_M I m) (hE : bg_E F v E m) {Z : b_Z} {k : Nat} {as : List b_V} {ys : List Value} (hs : bg_s v as ys) : ∃ E1 ∈ b_cut2 hk Z E k as, bg_E F v E1 m := by
  obtain ⟨q, q1, q2, q3⟩ := b_cutl_ok hs (k := k) (cs := Z.2.2.1) (l := [(E.2.1, E.2.2.1)]) ⟨_, List.mem_singleton.mpr rfl, hE.2.1, hE.2.2.1⟩
  have hE1 : bg_E F v (E.1, q.1, q.2, E.2.2.2) m := ⟨hE.1, q2, q3, hE.2.2.2⟩
  unfold b_cut2
  have h5 := hH.2.2.2.2.1 v k _ as m hE1 hM
  cases hal : hk.2.2.2.2.1 k (E.1, q.1, q.2, E.2.2.2) as with
  | nil => exact ⟨_, List.mem_flatMap.mpr ⟨q, q1, by simp only [hal]; exact List.mem_singleton.mpr rfl⟩, hE1⟩
  | cons a al =>
    rw [hal] at h5
    obtain ⟨ts, t1, t2⟩ := h5 (by simp)
    refine ⟨(E.1, q.1, q.2, E.2.2.2.1, ts ++ E.2.2.2.2), List.mem_flatMap.mpr ⟨q, q1, by simp only [hal]; exact List.mem_map.mpr ⟨ts, t1, rfl⟩⟩, hE1.1, hE1.2.1, hE1.2.2.1, hE1.2.2.2.1, ?_⟩
    intro t ht
    rcases List.mem_append.mp ht with ht | ht
    · exact t2 t ht
    · exact hE1.2.2.2.2 t ht
theorem b_calls_ok {hk : b_Hk} (hH : bg_Hk I F hk) (hM : bi_M I m) {Z : b_Z} {k : Nat} {as rest : List b_V} : ∀ {Es : List b_E} {xs : List b_X}, b_calls hk fp Z k as rest Es = some xs → ∀ E1 ∈ Es, bg_E F v E1 m → ∃ ys, b_cons hk fp Z.2.2.2.1 E1 k as rest Z.2.1 = some ys ∧ ∀ y ∈ ys, y ∈ xs
  | [], xs, h, E1, hE, _ => by cases hE
  | E0 :: Es, xs, h, E1, hE, hE1 => by
    unfold b_calls at h
    split at h
    rotate_left
    · cases h
    rename_i a b h1 h2
    cases h
    rcases List.mem_cons.mp hE with rfl | hE
    · rw [if_neg (hH.2.2.2.1 v _ m hE1 hM)] at h1
      exact ⟨a, h1, fun y hy => List.mem_append_left _ hy⟩
    · obtain ⟨ys, y1, y2⟩ := b_calls_ok hH hM h2 E1 hE hE1
      exact ⟨ys, y1, fun y hy => List.mem_append_right _ (y2 y hy)⟩
theorem b_cw_ok {W V : b_W} (h : b_cw W V = true) : ∀ c j, b_plW V c j → b_plW W c j := by
  rintro c j ⟨w, hw, e1, e2, e3⟩
  have := b_inW_ok (List.all_eq_true.mp h w hw) e2 e3
  rw [e1] at this
  exact this
/-- a call by contract -/
theorem b_con_ok {hk : b_Hk} (hH : bg_Hk I F hk) (hF : bg_F I fp F) {Z : b_Z} (hcs : ∀ c ∈ Z.2.1, bc_ok G I F c) (hM : bi_M I m) {k : Nat} {as rest : List b_V} {Es : List b_E} {xs : List b_X} (h : b_calls hk fp Z k as rest (b_cut2 hk Z E k as) = some xs) (hE : bg_E F v E m) {ys st : List Value} (ha : bg_s v as ys) (hr : bg_s v rest st) {M : q_MI} (hk : (q_gM G)[k]? = some M) :
    ∃ (n : Nat) (r : Option Value) (m1 : q_M), q_run G n M 0 (lv_args 0 ys) [] m = some (r, m1) ∧ bi_M I m1 ∧ q_same Z.2.2.2.1 m m1 ∧ ∃ x ∈ xs, ∃ t, bg_E F (v ++ t) x.1 m1 ∧ bg_s (v ++ t) x.2 (r.toList ++ st) := by
  obtain ⟨E1, e1, e2⟩ := b_cut2_ok hH hM hE (Z := Z) (k := k) ha
  obtain ⟨xs1, x1, x2⟩ := b_calls_ok hH hM h E1 e1 e2
  obtain ⟨c, c1, c2, s, c3, c4, c5, c6⟩ := b_cons_ok x1
  obtain ⟨zs, z1, z2⟩ := b_fita_ok e2 ha c3
  obtain ⟨n, r, m1, r1, r2, r3, o, o1, o2⟩ := hcs c c1 M (by rw [c2]; exact hk) ys zs m z1 hM (b_tks_ok hH e2 hM z2 c4)
  obtain ⟨x, h1, t, h2, h3⟩ := b_outs_ok (b_wrW_ok hF hM r2 e2 r3) z2 hr o2 c6 o1
  exact ⟨n, r, m1, r1, r2, r3.mono (b_cw_ok c5), x, x2 x h1, t, h2, h3⟩
theorem b_lvs_ok : ∀ {as : List b_V} {ys : List Value} (i : Nat), bg_s v as ys → bg_L v (b_lvs i as) (lv_args i ys)
  | [], [], i, _ => fun k x h => by simp [b_lvs, b_get] at h
  | a :: as, y :: ys, i, h => by
    intro k x hx
    unfold b_lvs b_get at hx
    unfold lv_args q_get
    split at hx
    · rename_i hk
      have hk := Nat.eq_of_beq_eq_true hk
      cases hx
      rw [if_pos hk]
      exact ⟨y, rfl, h.1⟩
    · rename_i hk
      rw [if_neg (fun e => by simp only at e hk; rw [e, Nat.beq_refl] at hk; cases hk)]
      rw [← bg_cat h.1]
      exact b_lvs_ok _ h.2 k x hx
  | [], _ :: _, _, h => h.elim
  | _ :: _, [], _, h => h.elim
theorem b_call_ok (hM : bi_M I m) {M M1 : q_MI} {k : Nat} {sa as rest : List b_V} {st : List Value} (h : b_call G I M k sa = some (M1, as, rest)) (hs : bg_s v sa st) : ∃ ys rs, q_call G M k st m = some (M1, ys, rs) ∧ bg_s v as ys ∧ bg_s v rest rs ∧ (q_gM G)[k]? = some M1 := by
  unfold b_call at h
  split at h
  · cases h
  rename_i M2 hk
  split at h
  rotate_left
  · cases h
  rename_i hc
  obtain ⟨c1, c2, c3, c4, c5, c6⟩ := hc
  cases h
  have ht := g_2_take (q_na M1) hs
  have hd := g_2_drop (q_na M1) hs
  refine ⟨(st.take (q_na M1)).reverse, st.drop (q_na M1), ?_, g_2_rev ht, hd, hk⟩
  unfold q_call
  rw [hk]
  simp only
  have e1 := bg_ac ht
  have e2 := bg_ac hd
  have e3 := g_2_len hs
  rw [if_pos]
  refine ⟨by omega, by omega, c3, c4, by omega, ?_⟩
  have hr := g_2_rev ht
  generalize (st.take (q_na M1)).reverse = ys at hr ⊢
  generalize (sa.take (q_na M1)).reverse = xs at hr c6
  unfold b_rcv at c6
  unfold q_rcv
  split at c6
  · rename_i hk1
    rw [hk1]
    rfl
  · rename_i hk0
    rw [hk0]
    split at c6
    rotate_left
    · cases c6
    rename_i a as1
    obtain ⟨y, ys1, rfl, hy, -⟩ := g_ca hr
    have hy : y = .ref a := hy
    subst hy
    split at c6
    rotate_left
    · cases c6
    rename_i ci fs hI
    obtain ⟨y, hm, vs, rfl, -⟩ := bi_get hM hI
    simp only [hm]
    exact c6
  · cases c6
theorem b_ret_ok {B : a_B} (hB : g_B v B) {M : q_MI} {i : Instr} {sa ra : List b_V} {st : List Value} (h : b_ret B M i sa = some ra) (hs : bg_s v sa st) : ∃ r, q_retn M i st = some r ∧ bg_s v ra r.toList := by
  unfold b_ret at h
  split at h
  · split at h
    rotate_left
    · cases h
    rename_i x
    obtain ⟨y, ys, rfl, hy, hs1⟩ := g_ca hs
    have := g_na hs1
    subst this
    have hy0 := hy
    obtain ⟨w, rfl, hy⟩ := hy
    split at h
    · rename_i hR
      cases h
      exact ⟨some (.int w), by simp only [q_retn, hR]; rw [if_pos (show narrow .int (.int w) = .int w from rfl)], hy0, trivial⟩
    · rename_i hR
      split at h
      rotate_left
      · cases h
      rename_i hw
      cases h
      have h2 := b_within_ok hB hw hy
      refine ⟨some (.int w), ?_, hy0, trivial⟩
      simp only [q_retn, hR]
      rw [if_pos]
      have hw01 : w = 0 ∨ w = 1 := by
        rcases (show w.toInt = 0 ∨ w.toInt = 1 by omega) with e | e
        · exact Or.inl (Int32.toInt_inj.mp (by rw [e]; rfl))
        · exact Or.inr (Int32.toInt_inj.mp (by rw [e]; rfl))
      rcases hw01 with rfl | rfl <;> rfl
    · cases h
  · split at h
    rotate_left
    · cases h
    rename_i x
    split at h
    rotate_left
    · cases h
    rename_i hR
    cases h
    obtain ⟨y, ys, rfl, hy, hs1⟩ := g_ca hs
    have := g_na hs1
    subst this
    have hy0 := hy
    obtain ⟨w, rfl, hy⟩ := hy
    exact ⟨some (.long w), by simp only [q_retn]; rw [if_pos hR], hy0, trivial⟩
  · split at h
    rotate_left
    · cases h
    split at h
    rotate_left
    · cases h
    rename_i hR
    cases h
    have := g_na hs
    subst this
    exact ⟨none, by simp only [q_retn]; rw [if_pos hR], trivial⟩
  · cases h
end BCTL
end
section
theorem b_ivl_ex {v : List Int} {B : a_B} (hB : g_B v B) : ∀ {l : List (Nat × Int)} {p : Int × Int}, b_ivl B l = some p → ∃ s, b_vs v l = some s
  | [], p, _ => ⟨0, rfl⟩
  | q :: l, p, h => by
    unfold b_ivl at h
    split at h
    rotate_left
    · cases h
    rename_i r s h1 h2
    obtain ⟨w, w1, -⟩ := g_bd hB h1
    obtain ⟨z, z1⟩ := b_ivl_ex hB h2
    exact ⟨_, b_vs_cons.mpr ⟨w, z, w1, z1, rfl⟩⟩
theorem b_iv_ex {v : List Int} {B : a_B} (hB : g_B v B) {t : b_T} (h : (b_iv B t).isSome = true) : ∃ z, b_is v t z := by
  unfold b_iv at h
  split at h
  · rename_i s hs
    obtain ⟨z, hz⟩ := b_ivl_ex hB hs
    exact ⟨_, z, hz, rfl⟩
  · cases h
theorem b_all_ex {v : List Int} {B : a_B} (hB : g_B v B) : ∀ {s : List b_T}, s.all (fun t => (b_iv B t).isSome) = true → ∃ zs, g_2 (b_is v) s zs
  | [], _ => ⟨[], trivial⟩
  | t :: s, h => by
    rw [List.all_cons, Bool.and_eq_true] at h
    obtain ⟨z, hz⟩ := b_iv_ex hB h.1
    obtain ⟨zs, hzs⟩ := b_all_ex hB h.2
    exact ⟨z :: zs, hz, hzs⟩
theorem b_mks_len {l : List (Nat × b_T)} : ∀ (n i : Nat), (b_mks l i n).length = n
  | 0, i => rfl
  | n + 1, i => by
    unfold b_mks
    rw [List.length_cons, b_mks_len n]
section BRUN
variable {F : Nat → List Int → q_M → Prop} {fp : Nat → b_W} {v : List Int} {E : b_E} {m : q_M} {I : List b_I} {G : q_G}
theorem b_lgs {lg lg1 : Bool} (h : (match lg, lg1 with | true, true => true | false, false => true | _, _ => false) = true) : lg = lg1 := by
  cases lg <;> cases lg1 <;> first | rfl | cases h
theorem b_okl_ok (hE : bg_E F v E m) {s : List b_T} {zs : List Int} (hs : g_2 (b_is v) s zs) {la : b_L} {l : q_L} (hl : bg_L v la l) : ∀ {tl : b_L}, b_okl E s la tl = true → bg_L zs tl l
  | [], _ => fun k x h => by simp [b_get] at h
  | (j, x) :: tl, h => by
    unfold b_okl at h
    rw [Bool.and_eq_true] at h
    have ih := b_okl_ok hE hs hl h.2
    intro k y hy
    unfold b_get at hy
    split at hy
    rotate_left
    · exact ih k y hy
    rename_i hk
    have hk := Nat.eq_of_beq_eq_true hk
    simp only at hk
    subst hk
    cases hy
    have h1 := h.1
    split at h1
    · rename_i lg t lg1 w hg
      rw [Bool.and_eq_true] at h1
      have := b_lgs h1.1
      subst this
      have h2 := h1.2
      split at h2
      rotate_left
      · cases h2
      rename_i c hc
      obtain ⟨z, z1, z2⟩ := b_sb_ok hs hc
      obtain ⟨y, y1, y2⟩ := hl _ _ hg
      refine ⟨y, y1, ?_⟩
      cases lg with
      | false =>
        obtain ⟨u, rfl, u1⟩ := y2
        have := b_eqv_ok hE h2 z2 u1
        subst this
        exact ⟨u, rfl, z1⟩
      | true =>
        obtain ⟨u, rfl, u1⟩ := y2
        have := b_eqv_ok hE h2 z2 u1
        subst this
        exact ⟨u, rfl, z1⟩
    · rename_i a b hg
      have := Nat.eq_of_beq_eq_true h1
      subst this
      exact hl _ _ hg
    · rename_i a b hg
      have := Nat.eq_of_beq_eq_true h1
      subst this
      exact hl _ _ hg
    · cases h1
theorem b_okm_ok (hE : bg_E F v E m) {s : List b_T} {zs : List Int} (hs : g_2 (b_is v) s zs) : ∀ {tl : List b_O}, b_okm E s tl = true → ∀ o ∈ tl, bg_O zs m o
  | [], _, o, ho => by cases ho
  | p :: tl, h, o, ho => by
    unfold b_okm at h
    rw [Bool.and_eq_true] at h
    rcases List.mem_cons.mp ho with rfl | ho
    rotate_left
    · exact b_okm_ok hE hs h.2 o ho
    have h1 := h.1
    split at h1
    rotate_left
    · cases h1
    rename_i w he hw
    rw [Bool.and_eq_true] at h1
    have hlg := b_lgs h1.1
    have h2 := h1.2
    split at h2
    rotate_left
    · cases h2
    rename_i c hc
    obtain ⟨z, z1, z2⟩ := b_sb_ok hs hc
    obtain ⟨j, j1, j2⟩ := hE.2.2.2.1 _ (b_mo_ok hw)
    simp only at j1 j2
    refine ⟨j, ?_, ?_⟩
    · obtain ⟨s1, e1, e2⟩ := j1
      rw [he] at e1
      cases e1
      exact ⟨0, by rw [he]; rfl, e2⟩
    · obtain ⟨oc, ot, olg, oe⟩ := o
      obtain ⟨wlg, we⟩ := w
      simp only at hlg h2 z1 j2 ⊢
      subst hlg
      cases olg with
      | false =>
        obtain ⟨u, u1, u2⟩ := j2
        have := b_eqv_ok hE h2 z2 u2
        subst this
        exact ⟨u, u1, z1⟩
      | true =>
        obtain ⟨u, u1, u2⟩ := j2
        have := b_eqv_ok hE h2 z2 u2
        subst this
        exact ⟨u, u1, z1⟩
def bg_mu (v : List Int) (mu : Option b_T) (z0 : Option Int) : Prop := match mu, z0 with
  | none, none => True
  | some u, some z => b_is v u z
  | _, _ => False
theorem b_mu_ext {mu : Option b_T} {z0 : Option Int} {t : List Int} (h : bg_mu v mu z0) : bg_mu (v ++ t) mu z0 := by
  match mu, z0, h with
  | none, none, _ => trivial
  | some u, some z, hz => exact b_is_ext (show b_is v u z from hz)
/-- the state is one of the template's -/
def bg_Te (F : Nat → List Int → q_M → Prop) (I : List b_I) (T : b_Te) (z0 : Option Int) (l : q_L) (m : q_M) : Prop := ∃ zs, bg_E F zs T.1 m ∧ bg_L zs T.2.1 l ∧ bi_M I m ∧ ∀ a, z0 = some a → ∃ b, b_is zs T.2.2 b ∧ b < a
theorem b_fits_ok {hk : b_Hk} (hH : bg_Hk I F hk) (hE : bg_E F v E m) (hM : bi_M I m) {la : b_L} {l : q_L} (hl : bg_L v la l) {mu0 : Option b_T} {z0 : Option Int} (hmu : bg_mu v mu0 z0) {T : b_Te} (h : b_fits hk E la mu0 T = true) : bg_Te F I T z0 l m := by
  unfold b_fits at h
  simp only [Bool.and_eq_true] at h
  obtain ⟨⟨⟨⟨⟨⟨h1, h2⟩, h3⟩, h4⟩, h5⟩, h6⟩, h7⟩ := h
  generalize hsd : b_mks (b_sgl la T.2.1 ++ (b_sgm E.2.2.2.1 T.1.2.2.2.1 ++ b_sgt E.2.2.2.2 T.1.2.2.2.2)) 0 T.1.1 = s at h1 h2 h3 h4 h5 h6 h7
  have hlen : s.length = T.1.1 := by rw [← hsd]; exact b_mks_len _ _
  obtain ⟨zs, hs⟩ := b_all_ex hE.2.1 h1
  refine ⟨zs, ⟨?_, ?_, ?_, b_okm_ok hE hs h3, b_tks_ok hH hE hM hs h4⟩, b_okl_ok hE hs hl h2, hM, ?_⟩
  · rw [← g_2_len hs]
    exact hlen
  · intro q hq
    have h8 := List.all_eq_true.mp h5 q hq
    split at h8
    rotate_left
    · cases h8
    rename_i t ht
    obtain ⟨w, w1, w2⟩ := g_2_get hs ht
    have := b_inb_ok hE h8 w2
    exact ⟨w, w1, this.1, this.2⟩
  · intro c hc
    have h8 := List.all_eq_true.mp h6 c hc
    split at h8
    rotate_left
    · cases h8
    rename_i t ht
    obtain ⟨z, z1, z2⟩ := b_sb_ok hs ht
    exact ⟨z, z1, b_ent_ok hE.2.1 hE.2.2.1 h8 z2⟩
  · intro a ha
    subst ha
    split at h7
    · exact hmu.elim
    · rename_i u
      split at h7
      rotate_left
      · cases h7
      rename_i t ht
      obtain ⟨z, z1, z2⟩ := b_sb_ok hs ht
      have := b_ent_ok hE.2.1 hE.2.2.1 h7 (b_is_ad (k := -1) (b_is_m1 hmu) z2)
      exact ⟨z, z1, by omega⟩
theorem b_tou_ok (hM : bi_M I m) : ∀ {ls : List (Nat × Nat)} {v : List Int} {E : b_E}, bg_E F v E m → ∃ t, bg_E F (v ++ t) (b_tou I ls E) m
  | [], v, E, hE => ⟨[], by rw [List.append_nil]; exact hE⟩
  | (a, j) :: ls, v, E, hE => by
    unfold b_tou
    split
    rotate_left
    · rename_i t0 n ex lo hi hI
      split
      rotate_left
      · exact b_tou_ok hM hE
      rename_i hj
      obtain ⟨y, hm, f, rfl, hf1, hf2, -⟩ := bi_get hM hI
      have hb := b_bnd_ok hE.2.1 (x := b_c (j : Int)) (b_is_c _) hj hf1 hf2
      have key : bg_X I [] F v m [b_rd E a (b_c (j : Int)) false (b_bnd E.2.1 ex lo hi (b_c (j : Int))).1 (b_bnd E.2.1 ex lo hi (b_c (j : Int))).2 []] (some ([q_at m a j], m)) :=
        b_rd_ok (c := a) (j := j) (lg := false) (z := (f j).toInt) hE hM (b_is_c _) hb.1 hb.2 ⟨f j, q_at_int hm, rfl⟩ (r := []) (st := []) trivial rfl
      obtain ⟨y, hy, t, st1, m1, r1, r2, r3, r4, r5⟩ := key
      have := List.mem_singleton.mp hy
      subst this
      cases r1
      obtain ⟨t2, h2⟩ := b_tou_ok hM r2 (ls := ls)
      exact ⟨t ++ t2, by rw [← List.append_assoc]; exact h2⟩
    · exact b_tou_ok hM hE
    rename_i ci fs hI
    split
    rotate_left
    · exact b_tou_ok hM hE
    rename_i lg lo hi hf
    obtain ⟨y, hm, vs, rfl, hvs⟩ := bi_get hM hI
    obtain ⟨x, hx, hxv⟩ := g_2_get hvs hf
    have e1 : q_at m a j = x := by rw [q_at_obj hm, List.getD_eq_getElem?_getD, hx]; rfl
    have key : bg_X I [] F v m [b_rd E a (b_c (j : Int)) lg lo hi []] (some ([q_at m a j], m)) := by
      cases lg with
      | false =>
        obtain ⟨z, rfl, z1, z2⟩ := hxv
        exact b_rd_ok (c := a) (j := j) (lg := false) (z := z.toInt) hE hM (b_is_c _) z1 z2 ⟨z, e1, rfl⟩ (r := []) (st := []) trivial rfl
      | true =>
        obtain ⟨z, rfl, z1, z2⟩ := hxv
        exact b_rd_ok (c := a) (j := j) (lg := true) (z := z.toInt) hE hM (b_is_c _) z1 z2 ⟨z, e1, rfl⟩ (r := []) (st := []) trivial rfl
    obtain ⟨y, hy, t, st1, m1, r1, r2, r3, r4, r5⟩ := key
    have := List.mem_singleton.mp hy
    subst this
    cases r1
    obtain ⟨t2, h2⟩ := b_tou_ok hM r2 (ls := ls)
    exact ⟨t ++ t2, by rw [← List.append_assoc]; exact h2⟩
theorem b_tkl_ok {id : Nat} {x : b_T} : ∀ {tk : List b_Q}, (∀ t ∈ tk, bg_Q F v m t) → b_tkl tk id = some x → ∃ z, b_is v x z
  | [], _, h => by cases h
  | u :: tk, hq, h => by
    unfold b_tkl at h
    split at h
    · obtain ⟨zs, z1, -⟩ := hq u List.mem_cons_self
      have hx : x ∈ u.2 := List.mem_of_getLast? h
      obtain ⟨i, hi⟩ := List.getElem?_of_mem hx
      obtain ⟨z, -, hz⟩ := g_2_get z1 hi
      exact ⟨z, hz⟩
    · exact b_tkl_ok (fun t ht => hq t (List.mem_cons_of_mem _ ht)) h
theorem b_spl_ok {la : b_L} {l : q_L} (hl : bg_L v la l) {tk : List b_Q} (htk : ∀ t ∈ tk, bg_Q F v m t) : ∀ {cs : List (Nat × Int)} {qs : List (a_B × List b_T)}, (∃ q ∈ qs, g_B v q.1 ∧ bg_C v q.2) → ∃ q ∈ b_spl la tk cs qs, g_B v q.1 ∧ bg_C v q.2
  | [], qs, h => h
  | (k, c) :: cs, qs, h => by
    unfold b_spl
    split
    · rename_i x hx
      have hz : ∃ z, b_is v x z := by
        unfold b_spx at hx
        split at hx
        · rename_i lg y hg
          cases hx
          obtain ⟨y, y1, y2⟩ := hl _ _ hg
          cases lg with
          | false => obtain ⟨z, -, hz⟩ := y2; exact ⟨_, hz⟩
          | true => obtain ⟨z, -, hz⟩ := y2; exact ⟨_, hz⟩
        · cases hx
        · exact b_tkl_ok htk hx
      obtain ⟨z, hz⟩ := hz
      exact b_spl_ok hl htk (b_cut_ok hz h)
    · exact b_spl_ok hl htk h
theorem b_arr_ok {hk : b_Hk} (hH : bg_Hk I F hk) (hE : bg_E F v E m) (hM : bi_M I m) {la : b_L} {l : q_L} (hl : bg_L v la l) {mu0 : Option b_T} {z0 : Option Int} (hmu : bg_mu v mu0 z0) {h : b_H} (ha : b_arr hk I E la mu0 h = true) : ∃ T ∈ h.2.2.2, bg_Te F I T z0 l m := by
  obtain ⟨q, q1, q2, q3⟩ := b_spl_ok hl hE.2.2.2.2 (cs := h.2.1) (qs := [(E.2.1, E.2.2.1)]) ⟨_, List.mem_singleton.mpr rfl, hE.2.1, hE.2.2.1⟩
  have hb := List.all_eq_true.mp ha q q1
  simp only at hb
  have hE2 : bg_E F v (E.1, q.1, q.2, E.2.2.2) m := ⟨hE.1, q2, q3, hE.2.2.2⟩
  obtain ⟨t, h2⟩ := b_tou_ok hM hE2 (ls := h.2.2.1)
  rw [Bool.or_eq_true] at hb
  rcases hb with hb | hb
  · exact absurd hb (hH.2.2.2.1 _ _ m h2 hM)
  obtain ⟨T, T1, T2⟩ := List.any_eq_true.mp hb
  exact ⟨T, T1, b_fits_ok hH h2 hM (bg_L_ext hl) (b_mu_ext hmu) T2⟩
def bg_Fr (v : List Int) (f : b_F) (p : q_Fr) : Prop := f.1 = p.1 ∧ q_srt (q_mC f.1) = true ∧ (∃ J l, f.2.1 = J :: l ∧ J.1 = p.2.1 ∧ f.2.1 <:+ q_mC f.1) ∧ bg_L v f.2.2.1 p.2.2.1 ∧ bg_s v f.2.2.2 p.2.2.2
theorem bg_Fr_ext {t : List Int} {f : b_F} {p : q_Fr} (h : bg_Fr v f p) : bg_Fr (v ++ t) f p := ⟨h.1, h.2.1, h.2.2.1, bg_L_ext h.2.2.2.1, bg_s_ext h.2.2.2.2⟩
/-- frames: with r given back to the topmost, the last comes to its end as P says -/
def q_Kp (G : q_G) (P : Option Value → q_M → Prop) : List q_Fr → Option Value → q_M → Prop
  | [], r, m => P r m
  | f :: fs, r, m => ∃ (n : Nat) (r1 : Option Value) (m1 : q_M), q_run G n f.1 f.2.1 f.2.2.1 (r.toList ++ f.2.2.2) m = some (r1, m1) ∧ q_Kp G P fs r1 m1
theorem q_Kp_step {P : Option Value → q_M → Prop} {M : q_MI} {pc pc1 : Nat} {l l1 : q_L} {st st1 : List Value} {m m1 : q_M} {fs : List q_Fr} (hr : ∀ n, q_run G (n + 1) M pc l st m = q_run G n M pc1 l1 st1 m1) (h : q_Kp G P ((M, pc1, l1, st1) :: fs) none m1) : q_Kp G P ((M, pc, l, st) :: fs) none m := by
  obtain ⟨n, r1, m2, h1, h2⟩ := h
  exact ⟨n + 1, r1, m2, (hr n).trans h1, h2⟩
theorem q_Kp_call {P : Option Value → q_M → Prop} {M M1 : q_MI} {pc pc1 : Nat} {l lv : q_L} {st rest : List Value} {m : q_M} {fs : List q_Fr} (hr : ∀ n r m1, q_run G n M1 0 lv [] m = some (r, m1) → q_run G (n + 1) M pc l st m = q_run G n M pc1 l (r.toList ++ rest) m1) (h : q_Kp G P ((M1, 0, lv, []) :: (M, pc1, l, rest) :: fs) none m) : q_Kp G P ((M, pc, l, st) :: fs) none m := by
  obtain ⟨n, r, m1, h1, n2, r2, m2, h3, h4⟩ := h
  have e1 := q_fuel n (n + n2) _ _ _ _ _ _ (by omega) h1
  have e2 := q_fuel n2 (n + n2) _ _ _ _ _ _ (by omega) h3
  exact ⟨n + n2 + 1, r2, m2, (hr _ _ _ e1).trans e2, h4⟩
theorem q_Kp_done {P : Option Value → q_M → Prop} {M M1 : q_MI} {pc pc1 n1 : Nat} {l lv : q_L} {st rest : List Value} {m m1 : q_M} {r : Option Value} {fs : List q_Fr} (hr : ∀ n r m1, q_run G n M1 0 lv [] m = some (r, m1) → q_run G (n + 1) M pc l st m = q_run G n M pc1 l (r.toList ++ rest) m1) (h1 : q_run G n1 M1 0 lv [] m = some (r, m1)) (h : q_Kp G P ((M, pc1, l, r.toList ++ rest) :: fs) none m1) : q_Kp G P ((M, pc, l, st) :: fs) none m := by
  refine q_Kp_call hr ⟨n1, r, m1, h1, ?_⟩
  obtain ⟨n, r2, m2, h3, h4⟩ := h
  exact ⟨n, r2, m2, h3, h4⟩
theorem q_Kp_ret {P : Option Value → q_M → Prop} {M M2 : q_MI} {pc pc2 : Nat} {l l2 : q_L} {st st2 : List Value} {m : q_M} {r : Option Value} {fs : List q_Fr} (hr : q_run G 1 M pc l st m = some (r, m)) (h : q_Kp G P ((M2, pc2, l2, r.toList ++ st2) :: fs) none m) : q_Kp G P ((M, pc, l, st) :: (M2, pc2, l2, st2) :: fs) none m := by
  obtain ⟨n, r2, m2, h3, h4⟩ := h
  exact ⟨1, r, m, hr, n, r2, m2, h3, h4⟩
/-- a token of the outcome -/
def bc_tk (F : Nat → List Int → q_M → Prop) (m : q_M) (nA : Nat) (z : Option Int) (t : b_Q) : Prop := ∃ ys, F t.1 ys m ∧ g_2 (fun (a : b_T) (y : Int) => (a.1 = [] ∧ y = a.2) ∨ ∃ w, z = some w ∧ a.1 = [(nA, 1)] ∧ y = w + a.2) t.2 ys
/-- what a method comes to -/
def bc_fin (F : Nat → List Int → q_M → Prop) (m : q_M) (os : Nat × List b_U) (r : Option Value) : Prop := ∃ o ∈ os.2, match o.1, r with
  | none, none => ∀ t ∈ o.2, bc_tk F m os.1 none t
  | some (lg, lo, hi), some y => ∃ z, b_isn lg y z ∧ lo ≤ z ∧ z ≤ hi ∧ ∀ t ∈ o.2, bc_tk F m os.1 (some z) t
  | _, _ => False
def bc_P (F : Nat → List Int → q_M → Prop) (I : List b_I) (Z : b_Z) (m0 : q_M) (r : Option Value) (m : q_M) : Prop := bi_M I m ∧ q_same Z.2.2.2.1 m0 m ∧ bc_fin F m Z.2.2.2.2.1 r
theorem b_eqr_ok (hE : bg_E F v E m) {nA : Nat} {x : Option b_T} {z : Option Int} (hx : ∀ y, x = some y → ∃ w, z = some w ∧ b_is v y w) : ∀ {as bs : List b_T} {ys : List Int}, b_eqr E nA x as bs = true → g_2 (b_is v) bs ys → g_2 (fun (a : b_T) (y : Int) => (a.1 = [] ∧ y = a.2) ∨ ∃ w, z = some w ∧ a.1 = [(nA, 1)] ∧ y = w + a.2) as ys
  | [], [], [], _, _ => trivial
  | a :: as, b :: bs, y :: ys, h, hb => by
    unfold b_eqr at h
    rw [Bool.and_eq_true] at h
    refine ⟨?_, b_eqr_ok hE hx h.2 hb.2⟩
    have h1 := h.1
    split at h1
    · rename_i ha
      have ha2 : b_is v a a.2 := ⟨0, by rw [ha]; rfl, by omega⟩
      have := b_eqv_ok hE h1 ha2 hb.1
      exact Or.inl ⟨ha, this.symm⟩
    · rename_i q y1 ha
      rw [Bool.and_eq_true, Bool.and_eq_true, decide_eq_true_eq] at h1
      obtain ⟨w, w1, s, w2, w3⟩ := hx y1 rfl
      have := b_eqv_ok hE h1.2 (x := w + a.2) ⟨s, w2, by show w + a.2 = s + (y1.2 + a.2); omega⟩ hb.1
      refine Or.inr ⟨w, w1, ?_, this.symm⟩
      rw [ha, ← Nat.eq_of_beq_eq_true h1.1.1, ← h1.1.2]
    · cases h1
  | [], [], _ :: _, _, hb => hb.elim
  | [], _ :: _, _, h, _ => by simp [b_eqr] at h
  | _ :: _, [], _, h, _ => by simp [b_eqr] at h
  | _ :: _, _ :: _, [], _, hb => hb.elim
theorem b_sbr_ok (hE : bg_E F v E m) {nA : Nat} {x : Option b_T} {z : Option Int} (hx : ∀ y, x = some y → ∃ w, z = some w ∧ b_is v y w) : ∀ {as us : List b_T}, b_sbr nA x as = some us → ∃ ys, g_2 (b_is v) us ys ∧ g_2 (fun (a : b_T) (y : Int) => (a.1 = [] ∧ y = a.2) ∨ ∃ w, z = some w ∧ a.1 = [(nA, 1)] ∧ y = w + a.2) as ys
  | [], us, h => by
    cases h
    exact ⟨[], trivial, trivial⟩
  | a :: as, us, h => by
    unfold b_sbr at h
    split at h
    rotate_left
    · cases h
    rename_i b bs h1 h2
    cases h
    obtain ⟨ys, y1, y2⟩ := b_sbr_ok hE hx h2
    split at h1
    · rename_i ha
      cases h1
      exact ⟨a.2 :: ys, ⟨⟨0, by rw [ha]; rfl, by omega⟩, y1⟩, Or.inl ⟨ha, rfl⟩, y2⟩
    · rename_i q y ha
      split at h1
      rotate_left
      · cases h1
      rename_i hq
      cases h1
      obtain ⟨w, w1, s, w2, w3⟩ := hx y rfl
      refine ⟨(w + a.2) :: ys, ⟨⟨s, w2, by show w + a.2 = s + (y.2 + a.2); omega⟩, y1⟩, Or.inr ⟨w, w1, ?_, rfl⟩, y2⟩
      rw [ha, ← hq.1, ← hq.2]
    · cases h1
theorem b_ctk_ok {hk : b_Hk} (hH : bg_Hk I F hk) (hM : bi_M I m) (hE : bg_E F v E m) {nA : Nat} {x : Option b_T} {z : Option Int} (hx : ∀ y, x = some y → ∃ w, z = some w ∧ b_is v y w) {ts : List b_Q} (h : b_ctk hk E nA x ts = true) : ∀ t ∈ ts, bc_tk F m nA z t := by
  intro t ht
  have h0 := List.all_eq_true.mp h t ht
  rw [Bool.or_eq_true] at h0
  rcases h0 with h0 | h0
  · obtain ⟨u, hu, h2⟩ := List.any_eq_true.mp h0
    rw [Bool.and_eq_true] at h2
    obtain ⟨ys, y1, y2⟩ := hE.2.2.2.2 u hu
    refine ⟨ys, ?_, b_eqr_ok hE hx h2.2 y1⟩
    rw [Nat.eq_of_beq_eq_true h2.1]
    exact y2
  · split at h0
    rotate_left
    · cases h0
    rename_i us hus
    rw [Bool.and_eq_true] at h0
    obtain ⟨ys, y1, y2⟩ := b_sbr_ok hE hx hus
    exact ⟨ys, hH.2.2.1 v E m t.1 us ys hE hM y1 h0.1, y2⟩
theorem b_fin_ok {hk : b_Hk} (hH : bg_Hk I F hk) (hE0 : bg_E F v E m) (hM : bi_M I m) {os : Nat × List b_U} {ra : List b_V} {r : Option Value} (h : b_fin hk E os ra = true) (hs : bg_s v ra r.toList) : bc_fin F m os r := by
  have hE := hE0
  unfold b_fin at h
  rw [Bool.or_eq_true] at h
  rcases h with h | h
  · exact absurd h (hH.2.2.2.1 _ _ m hE hM)
  obtain ⟨o, ho, h1⟩ := List.any_eq_true.mp h
  refine ⟨o, ho, ?_⟩
  split at h1
  · rename_i h2
    have := g_na hs
    cases r with
    | none =>
      simp only [h2]
      exact b_ctk_ok hH hM hE (fun y hy => by cases hy) h1
    | some y => cases this
  · rename_i lg lo hi lg1 x h2
    obtain ⟨y, ys, e1, hy, hs1⟩ := g_ca hs
    cases r with
    | none => cases e1
    | some y0 =>
      cases e1
      rw [Bool.and_eq_true, Bool.and_eq_true] at h1
      have := b_lgs h1.1.1
      subst this
      simp only [h2]
      cases lg with
      | false =>
        obtain ⟨w, rfl, hw⟩ := hy
        have := b_inb_ok hE h1.1.2 hw
        exact ⟨w.toInt, ⟨w, rfl, rfl⟩, this.1, this.2, b_ctk_ok hH hM hE (fun y hy => by cases hy; exact ⟨_, rfl, hw⟩) h1.2⟩
      | true =>
        obtain ⟨w, rfl, hw⟩ := hy
        have := b_inb_ok hE h1.1.2 hw
        exact ⟨w.toInt, ⟨w, rfl, rfl⟩, this.1, this.2, b_ctk_ok hH hM hE (fun y hy => by cases hy; exact ⟨_, rfl, hw⟩) h1.2⟩
  · cases h1
theorem b_nxt_ok {M : q_MI} {tl : List q_I} {fs : List b_F} {mo : List b_O} {tk : List b_V → List b_Q} : ∀ {ps : List b_P} {Ss : List b_S}, b_nxt M tl fs mo tk ps = some Ss → ∀ p ∈ ps, ∃ c, a_at M tl p.2.2.2.1 = some c ∧ ((p.1, p.2.1, p.2.2.1, mo, tk p.2.2.2.2.2), (M, c, p.2.2.2.2.1, p.2.2.2.2.2) :: fs) ∈ Ss
  | [], Ss, h, p, hp => by cases hp
  | q :: ps, Ss, h, p, hp => by
    unfold b_nxt at h
    split at h
    rotate_left
    · cases h
    rename_i c l h1 h2
    cases h
    rcases List.mem_cons.mp hp with rfl | hp
    · exact ⟨c, h1, List.mem_cons_self⟩
    · obtain ⟨c2, e1, e2⟩ := b_nxt_ok h2 p hp
      exact ⟨c2, e1, List.mem_cons_of_mem _ e2⟩
theorem b_hd_ok : ∀ {hs : List b_H} {pc : Nat} {h : b_H}, b_hd hs pc = some h → h ∈ hs ∧ h.1 = pc
  | [], pc, h, e => by simp [b_hd] at e
  | x :: hs, pc, h, e => by
    unfold b_hd at e
    split at e
    · rename_i hb
      cases e
      exact ⟨List.mem_cons_self, Nat.eq_of_beq_eq_true hb⟩
    · exact ⟨List.mem_cons_of_mem _ (b_hd_ok e).1, (b_hd_ok e).2⟩
theorem b_lk_ok {i : Instr} {sa sa1 : List b_V} {st : List Value} (h : b_lk i sa = some sa1) (hs : bg_s v sa st) : ∃ st1, q_lk i st = some st1 ∧ bg_s v sa1 st1 := by
  unfold b_lk at h
  split at h
  · cases h
    exact ⟨_, rfl, ⟨_, rfl, b_is_c _⟩, hs⟩
  · cases h
    exact ⟨_, rfl, ⟨_, rfl, b_is_c _⟩, hs⟩
  · cases h
    exact ⟨_, rfl, rfl, hs⟩
  · cases h
def bg_St (F : Nat → List Int → q_M → Prop) (I : List b_I) (Z : b_Z) (MB : q_MI) (m0 : q_M) (z0 : Option Int) (v : List Int) (S : b_S) (ps : List q_Fr) (m : q_M) : Prop := bg_E F v S.1 m ∧ g_2 (bg_Fr v) S.2 ps ∧ bi_M I m ∧ q_same Z.2.2.2.1 m0 m ∧ (∀ f, ps.getLast? = some f → f.1 = MB) ∧ bg_mu v Z.2.2.2.2.2.2 z0
/-- what the loop heads promise -/
def bc_hd (G : q_G) (F : Nat → List Int → q_M → Prop) (I : List b_I) (Z : b_Z) (MB : q_MI) (z0 : Option Int) : Prop := ∀ h ∈ Z.2.2.2.2.2.1, ∀ T ∈ h.2.2.2, ∀ l m, bg_Te F I T z0 l m → ∃ (n : Nat) (r : Option Value) (m1 : q_M), q_run G n MB h.1 l [] m = some (r, m1) ∧ bc_P F I Z m r m1
set_option maxHeartbeats 2000000 in
theorem b_step_ok {hk : b_Hk} (hH : bg_Hk I F hk) (hsG : ∀ M ∈ q_gM G, q_srt (q_mC M) = true) (hF : bg_F I fp F) {Z : b_Z} (hcs : ∀ c ∈ Z.2.1, bc_ok G I F c) {MB : q_MI} {m0 : q_M} {z0 : Option Int} {chk : Bool} (hh : chk = true → bc_hd G F I Z MB z0) {S : b_S} {Ss : List b_S} (h : b_step hk G I fp Z chk S = some Ss) {ps : List q_Fr} (hK : bg_St F I Z MB m0 z0 v S ps m) :
    q_Kp G (bc_P F I Z m0) ps none m ∨ ∃ S1 ∈ Ss, ∃ (v1 : List Int) (ps1 : List q_Fr) (m1 : q_M), bg_St F I Z MB m0 z0 v1 S1 ps1 m1 ∧ (q_Kp G (bc_P F I Z m0) ps1 none m1 → q_Kp G (bc_P F I Z m0) ps none m) := by
  obtain ⟨E, fs0⟩ := S
  obtain ⟨hE, hFr, hM, hw, hlast, hmu⟩ := hK
  simp only at hE hFr
  unfold b_step at h
  split at h
  · cases h
  · cases h
  rename_i E' M pc raw len i pos tl la sa fs heq
  cases heq
  obtain ⟨p0, pfs, rfl, hf, hfs⟩ := g_ca hFr
  obtain ⟨M0, pc0, l, st⟩ := p0
  obtain ⟨e1, hsrt, ⟨J, jl, e2, e3, hsuf⟩, hl, hs⟩ := hf
  simp only at e1 e2 e3 hsrt hsuf hl hs
  subst e1
  cases e2
  simp only at e3
  subst e3
  have hfd := q_fd_suf hsrt hsuf
  simp only at hfd
  have htl : tl <:+ q_mC M := (List.suffix_cons _ tl).trans hsuf
  split at h
  · -- a loop head
    rename_i hd hhd
    split at h
    rotate_left
    · cases h
    split at h
    rotate_left
    · cases h
    rename_i harr
    cases h
    split at hhd
    rotate_left
    · cases hhd
    obtain ⟨hd1, hd2⟩ := b_hd_ok hhd
    have hp0 : pfs = [] := g_na hfs
    subst hp0
    have hMB : M = MB := hlast (M, pc, l, st) (by simp)
    subst hMB
    have hst := g_na hs
    subst hst
    obtain ⟨T, T1, T2⟩ := b_arr_ok hH hE hM hl hmu harr
    obtain ⟨n, r, m1, r1, r2⟩ := hh rfl hd hd1 T T1 l m T2
    left
    refine ⟨n, r, m1, ?_, r2.1, hw.tr r2.2.1, r2.2.2⟩
    rw [hd2] at r1
    exact r1
  split at h
  · -- pure
    rename_i hg
    split at h
    rotate_left
    · cases h
    rename_i ps1 hp
    obtain ⟨p, hpm, t, l1, st1, r1, r2, r3, r4, r5, r6⟩ := bg_pure hp hE.1 hE.2.1 hE.2.2.1 hl hs
    obtain ⟨c, c1, c2⟩ := b_nxt_ok h p hpm
    obtain ⟨J1, jl1, d1, d2, d3⟩ := a_at_ok c1 htl
    refine Or.inr ⟨_, c2, v ++ t, (M, p.2.2.2.1, l1, st1) :: pfs, m, ⟨⟨r2, r3, r4, fun o ho => bg_O_ext (hE.2.2.2.1 o ho), fun q hq => (List.mem_append.mp hq).elim (fun hq => hH.2.1 (v ++ t) (q_mL M) pc len i l st _ _ _ sa _ m (bg_s_ext hs) r6 r1 q hq) (fun hq => bg_Q_ext (hE.2.2.2.2 q hq))⟩, ⟨⟨rfl, hsrt, ⟨J1, jl1, d1, d2, d3⟩, r5, r6⟩, g_2_mono (fun _ _ => bg_Fr_ext) hfs⟩, hM, hw, g_last hlast (fun _ q => q), b_mu_ext hmu⟩, q_Kp_step (fun n => ?_)⟩
    conv => lhs; unfold q_run
    simp only [hfd, hg, r1]
  · -- memory
    rename_i hg
    split at h
    · rename_i himp
      exfalso
      unfold b_sti at himp
      split at himp
      · exact hH.2.2.2.1 _ _ m hE hM himp
      · exact hH.2.2.2.1 _ _ m hE hM himp
      · cases himp
    split at h
    rotate_left
    · cases h
    rename_i c xs c1 hp
    cases h
    obtain ⟨J1, jl1, d1, d2, d3⟩ := a_at_ok c1 htl
    obtain ⟨x, hx, t, st1, m1, r1, r2, r3, r4, r5⟩ := b_mem_ok hH.1 hH.2.2.2.2.2 hp hF hE hM hs
    refine Or.inr ⟨_, List.mem_map.mpr ⟨x, hx, rfl⟩, v ++ t, (M, pc + len, l, st1) :: pfs, m1, ⟨r2, ⟨⟨rfl, hsrt, ⟨J1, jl1, d1, d2, d3⟩, bg_L_ext hl, r3⟩, g_2_mono (fun _ _ => bg_Fr_ext) hfs⟩, r4, hw.tr r5, g_last hlast (fun _ q => q), b_mu_ext hmu⟩, q_Kp_step (fun n => ?_)⟩
    conv => lhs; unfold q_run
    simp only [hfd, hg, r1]
  · cases h
  · -- call or return
    rename_i hg
    split at h
    · rename_i j hj
      split at h
      rotate_left
      · cases h
      rename_i c M1 as rest c1 hp
      obtain ⟨J1, jl1, d1, d2, d3⟩ := a_at_ok c1 htl
      obtain ⟨vs, rs, r1, r2, r3, r4⟩ := b_call_ok hM hp hs
      have hstep : ∀ n r m1, q_run G n M1 0 (lv_args 0 vs) [] m = some (r, m1) → q_run G (n + 1) M pc l st m = q_run G n M (pc + len) l (r.toList ++ rs) m1 := by
        intro n r m1 hr
        conv => lhs; unfold q_run
        simp only [hfd, hg, hj, r1, hr]
      split at h
      · split at h
        rotate_left
        · cases h
        rename_i c2 hc2
        cases h
        obtain ⟨J2, jl2, d4, d5, d6⟩ := a_at_ok hc2 (List.suffix_refl _)
        refine Or.inr ⟨_, List.mem_singleton.mpr rfl, v, (M1, 0, lv_args 0 vs, []) :: (M, pc + len, l, rs) :: pfs, m, ⟨hE, ⟨⟨rfl, hsG M1 (List.mem_of_getElem? r4), ⟨J2, jl2, d4, d5, d6⟩, b_lvs_ok 0 r2, trivial⟩, ⟨rfl, hsrt, ⟨J1, jl1, d1, d2, d3⟩, hl, r3⟩, hfs⟩, hM, hw, fun z hz => ?_, hmu⟩, q_Kp_call hstep⟩
        rw [List.getLast?_cons_cons] at hz
        exact g_last (P := fun f : q_Fr => f.1 = MB) (g := (M, pc + len, l, rs)) hlast (fun _ q => q) z hz
      · split at h
        rotate_left
        · cases h
        rename_i xs hxs
        cases h
        obtain ⟨n, r, m1, q1, q2, q3, x, q4, t, q5, q6⟩ := b_con_ok hH hF hcs hM (Es := []) hxs hE r2 r3 r4
        exact Or.inr ⟨_, List.mem_map.mpr ⟨x, q4, rfl⟩, v ++ t, (M, pc + len, l, r.toList ++ rs) :: pfs, m1, ⟨q5, ⟨⟨rfl, hsrt, ⟨J1, jl1, d1, d2, d3⟩, bg_L_ext hl, q6⟩, g_2_mono (fun _ _ => bg_Fr_ext) hfs⟩, q2, hw.tr q3, g_last hlast (fun _ q => q), b_mu_ext hmu⟩, q_Kp_done hstep q1⟩
    · rename_i hj
      split at h
      rotate_left
      · cases h
      rename_i ra hr
      obtain ⟨r, r1, r2⟩ := b_ret_ok hE.2.1 hr hs
      have hone : q_run G 1 M pc l st m = some (r, m) := by
        unfold q_run
        simp only [hfd, hg, hj, r1]
      split at h
      · split at h
        rotate_left
        · cases h
        rename_i hfin
        cases h
        have hp0 : pfs = [] := g_na hfs
        subst hp0
        exact Or.inl ⟨1, r, m, hone, hM, hw, b_fin_ok hH hE hM hfin r2⟩
      · rename_i M2 c2 l2 st2 fs2 hxx
        cases h
        obtain ⟨q0, qs, rfl, hf2, hfs2⟩ := g_ca hfs
        obtain ⟨M3, pc3, l3, st3⟩ := q0
        obtain ⟨e1, hsrt2, hcd2, hl2, hs2⟩ := hf2
        simp only at e1 hsrt2 hcd2 hl2 hs2
        subst e1
        refine Or.inr ⟨_, List.mem_singleton.mpr rfl, v, (M2, pc3, l3, r.toList ++ st3) :: qs, m, ⟨hE, ⟨⟨rfl, hsrt2, hcd2, hl2, g_2_app r2 hs2⟩, hfs2⟩, hM, hw, fun z hz => ?_, hmu⟩, q_Kp_ret hone⟩
        exact g_last (P := fun f : q_Fr => f.1 = MB) (f := (M2, pc3, l3, st3)) (g := (M2, pc3, l3, r.toList ++ st3)) (fun z hz => hlast z (by rw [List.getLast?_cons_cons]; exact hz)) (fun _ q => q) z hz
  · rename_i hg0 hg1 hg2 hg3
    split at h
    rotate_left
    · cases h
    rename_i c st1a c1 hp
    cases h
    obtain ⟨J1, jl1, d1, d2, d3⟩ := a_at_ok c1 htl
    obtain ⟨st1, r1, r2⟩ := b_lk_ok hp hs
    refine Or.inr ⟨_, List.mem_singleton.mpr rfl, v, (M, pc + len, l, st1) :: pfs, m, ⟨hE, ⟨⟨rfl, hsrt, ⟨J1, jl1, d1, d2, d3⟩, hl, r2⟩, hfs⟩, hM, hw, g_last hlast (fun _ q => q), hmu⟩, q_Kp_step (fun n => ?_)⟩
    conv => lhs; unfold q_run
    simp only [hfd, r1]
end BRUN
end
section
/-! CONTRACTS CHECKED -/
def b_eA : List b_A → Nat → a_B × List b_V × Nat
  | [], k => ([], [], k)
  | .inl (lg, lo, hi) :: as, k => ((k, lo, hi) :: (b_eA as (k + 1)).1, .inl (lg, if lo = hi then b_c lo else ([(k, 1)], 0)) :: (b_eA as (k + 1)).2.1, (b_eA as (k + 1)).2.2)
  | .inr a :: as, k => ((b_eA as k).1, .inr a :: (b_eA as k).2.1, (b_eA as k).2.2)
/-- a contract and its certificate: what is followed into, the contracts of what it calls, cuts, loop heads -/
noncomputable def b_chk (hk : b_Hk) (G : q_G) (I : List b_I) (fp : Nat → b_W) (n : Nat) (c : b_Con) (inl : List Nat) (deps : List b_Con) (cuts : List (Nat × Nat × List Int)) (hs : List b_H) : Bool := match (q_gM G)[c.1]? with
  | none => false
  | some M => (match a_at M (q_mC M) 0 with
    | some cd => b_from hk G I fp (inl, deps, cuts, c.2.2.2.1, ((b_eA c.2.1 0).2.2, c.2.2.1), hs, none) n (((b_eA c.2.1 0).2.2, (b_eA c.2.1 0).1, [], [], c.2.2.2.2), [(M, cd, b_lvs 0 (b_eA c.2.1 0).2.1, [])])
    | none => false)
    && hs.all (fun h => match a_at M (q_mC M) h.1 with
      | some cd => h.2.2.2.all (fun T => b_ent T.1.2.1 T.1.2.2.1 T.2.2 && b_from hk G I fp (inl, deps, cuts, c.2.2.2.1, ((b_eA c.2.1 0).2.2, c.2.2.1), hs, some T.2.2) n (T.1, [(M, cd, T.2.1, [])]))
      | none => false)
section BCON
variable {F : Nat → List Int → q_M → Prop} {fp : Nat → b_W} {I : List b_I} {G : q_G}
theorem b_run_ok {hk : b_Hk} (hH : bg_Hk I F hk) (hsG : ∀ M ∈ q_gM G, q_srt (q_mC M) = true) (hF : bg_F I fp F) {Z : b_Z} (hcs : ∀ c ∈ Z.2.1, bc_ok G I F c) {MB : q_MI} {m0 : q_M} {z0 : Option Int} (hh : bc_hd G F I Z MB z0) : ∀ (n : Nat) (S : b_S), b_run hk G I fp Z n S = true → ∀ (v : List Int) (ps : List q_Fr) (m : q_M), bg_St F I Z MB m0 z0 v S ps m → q_Kp G (bc_P F I Z m0) ps none m
  | 0, S, h, _, _, _, _ => by
    have h : false = true := h
    cases h
  | n + 1, S, h, v, ps, m, hK => by
    have h : (match b_step hk G I fp Z true S with | none => false | some [] => true | some [S1] => b_run hk G I fp Z n S1 | some Ss => Ss.all (b_run hk G I fp Z n)) = true := h
    split at h
    · cases h
    · rename_i hst
      rcases b_step_ok hH hsG hF hcs (fun _ => hh) hst hK with h1 | ⟨S1, h1, -⟩
      · exact h1
      · cases h1
    · rename_i S1 hst
      rcases b_step_ok hH hsG hF hcs (fun _ => hh) hst hK with h1 | ⟨S2, h1, v1, ps1, m1, h2, h3⟩
      · exact h1
      · have := List.mem_singleton.mp h1
        subst this
        exact h3 (b_run_ok hH hsG hF hcs hh n _ h v1 ps1 m1 h2)
    · rename_i Ss _ _ hst
      rcases b_step_ok hH hsG hF hcs (fun _ => hh) hst hK with h1 | ⟨S2, h1, v1, ps1, m1, h2, h3⟩
      · exact h1
      · exact h3 (b_run_ok hH hsG hF hcs hh n _ (List.all_eq_true.mp h S2 h1) v1 ps1 m1 h2)
theorem b_from_ok {hk : b_Hk} (hH : bg_Hk I F hk) (hsG : ∀ M ∈ q_gM G, q_srt (q_mC M) = true) (hF : bg_F I fp F) {Z : b_Z} (hcs : ∀ c ∈ Z.2.1, bc_ok G I F c) {MB : q_MI} {m0 : q_M} {z0 : Option Int} (hh : bc_hd G F I Z MB z0) {n : Nat} {S : b_S} (h : b_from hk G I fp Z n S = true) {v : List Int} {ps : List q_Fr} {m : q_M} (hK : bg_St F I Z MB m0 z0 v S ps m) : q_Kp G (bc_P F I Z m0) ps none m := by
  unfold b_from at h
  split at h
  · cases h
  · rename_i Ss hst
    rcases b_step_ok hH hsG hF hcs (chk := false) (fun e => by cases e) hst hK with h1 | ⟨S2, h1, v1, ps1, m1, h2, h3⟩
    · exact h1
    · exact h3 (b_run_ok hH hsG hF hcs hh n _ (List.all_eq_true.mp h S2 h1) v1 ps1 m1 h2)
theorem b_eA_ok : ∀ {as : List b_A} {ys : List Value} {zs : List Int} (pre : List Int), bc_args as ys zs → (b_eA as pre.length).2.2 = (pre ++ zs).length ∧ g_B (pre ++ zs) (b_eA as pre.length).1 ∧ bg_s (pre ++ zs) (b_eA as pre.length).2.1 ys
  | [], [], zs, pre, h => by
    have h : zs = [] := h
    subst h
    exact ⟨by simp [b_eA], (fun q hq => by (cases hq)), trivial⟩
  | .inl (lg, lo, hi) :: as, y :: ys, z :: zs, pre, h => by
    obtain ⟨h1, h2, h3, h4⟩ := h
    have ih := b_eA_ok (pre ++ [z]) h4
    rw [List.append_assoc, List.length_append] at ih
    simp only [List.length_cons, List.length_nil, Nat.zero_add, List.cons_append, List.nil_append] at ih
    have hv : (pre ++ z :: zs)[pre.length]? = some z := by simp
    refine ⟨ih.1, ?_, ?_, ih.2.2⟩
    · intro q hq
      rcases List.mem_cons.mp hq with rfl | hq
      · exact ⟨z, hv, h2, h3⟩
      · exact ih.2.1 q hq
    · have hz : b_is (pre ++ z :: zs) (if lo = hi then b_c lo else ([(pre.length, 1)], 0)) z := by
        split
        · have : z = lo := by omega
          subst this
          exact b_is_c _
        · exact b_is_var hv
      cases lg with
      | false =>
        obtain ⟨w, rfl, rfl⟩ := h1
        exact ⟨w, rfl, hz⟩
      | true =>
        obtain ⟨w, rfl, rfl⟩ := h1
        exact ⟨w, rfl, hz⟩
  | .inr (.inl k) :: as, y :: ys, zs, pre, h => by
    have ih := b_eA_ok pre h.2
    exact ⟨ih.1, ih.2.1, h.1, ih.2.2⟩
  | .inr (.inr k) :: as, y :: ys, zs, pre, h => by
    have ih := b_eA_ok pre h.2
    exact ⟨ih.1, ih.2.1, h.1, ih.2.2⟩
  | [], _ :: _, _, _, h => h.elim
  | .inl _ :: _, [], _, _, h => h.elim
  | .inr (.inl _) :: _, [], _, _, h => h.elim
  | .inr (.inr _) :: _, [], _, _, h => h.elim
  | .inl _ :: _, _ :: _, [], _, h => h.elim
/-- a checked contract holds -/
theorem b_chk_ok {hk : b_Hk} (hH : bg_Hk I F hk) (hsG : ∀ M ∈ q_gM G, q_srt (q_mC M) = true) (hF : bg_F I fp F) {n : Nat} {c : b_Con} {inl : List Nat} {deps : List b_Con} {cuts : List (Nat × Nat × List Int)} {hs : List b_H} (h : b_chk hk G I fp n c inl deps cuts hs = true) (hd : ∀ d ∈ deps, bc_ok G I F d) : bc_ok G I F c := by
  intro M hM ys zs m ha hI hq
  unfold b_chk at h
  rw [hM] at h
  simp only [Bool.and_eq_true] at h
  obtain ⟨h0, hh⟩ := h
  have hsrt := hsG M (List.mem_of_getElem? hM)
  have claim : ∀ (N : Nat), ∀ x ∈ hs, ∀ T ∈ x.2.2.2, ∀ (z : Int), z ≤ N → ∀ l m, (∃ zs, bg_E F zs T.1 m ∧ bg_L zs T.2.1 l ∧ bi_M I m ∧ b_is zs T.2.2 z) → ∃ (k : Nat) (r : Option Value) (m1 : q_M), q_run G k M x.1 l [] m = some (r, m1) ∧ bc_P F I (inl, deps, cuts, c.2.2.2.1, ((b_eA c.2.1 0).2.2, c.2.2.1), hs, none) m r m1 := by
    intro N
    induction N with
    | zero =>
      intro x hx T hT z hz l m hst
      have h1 := List.all_eq_true.mp hh x hx
      split at h1
      rotate_left
      · cases h1
      rename_i cd hcd
      have h2 := List.all_eq_true.mp h1 T hT
      rw [Bool.and_eq_true] at h2
      obtain ⟨zs, e1, e2, e3, e4⟩ := hst
      obtain ⟨J, jl, d1, d2, d3⟩ := a_at_ok hcd (List.suffix_refl _)
      have hhd : bc_hd G F I (inl, deps, cuts, c.2.2.2.1, ((b_eA c.2.1 0).2.2, c.2.2.1), hs, some T.2.2) M (some z) := by
        intro y hy T' hT' l' m' ⟨zs', f1, f2, f3, f4⟩
        obtain ⟨b, f5, f6⟩ := f4 z rfl
        have h3 := List.all_eq_true.mp hh y hy
        split at h3
        rotate_left
        · cases h3
        have h4 := List.all_eq_true.mp h3 T' hT'
        rw [Bool.and_eq_true] at h4
        have := b_ent_ok f1.2.1 f1.2.2.1 h4.1 f5
        omega
      have K := b_from_ok hH hsG hF (Z := (inl, deps, cuts, c.2.2.2.1, ((b_eA c.2.1 0).2.2, c.2.2.1), hs, some T.2.2)) hd hhd h2.2 (m0 := m) (v := zs) (ps := [(M, x.1, l, [])]) (m := m) ⟨e1, ⟨⟨rfl, hsrt, ⟨J, jl, d1, d2, d3⟩, e2, trivial⟩, trivial⟩, e3, q_same.rf, fun f hf => by cases hf; rfl, e4⟩
      obtain ⟨k, r, m1, r1, r2⟩ := K
      exact ⟨k, r, m1, r1, r2⟩
    | succ N ih =>
      intro x hx T hT z hz l m hst
      have h1 := List.all_eq_true.mp hh x hx
      split at h1
      rotate_left
      · cases h1
      rename_i cd hcd
      have h2 := List.all_eq_true.mp h1 T hT
      rw [Bool.and_eq_true] at h2
      obtain ⟨zs, e1, e2, e3, e4⟩ := hst
      obtain ⟨J, jl, d1, d2, d3⟩ := a_at_ok hcd (List.suffix_refl _)
      have hhd : bc_hd G F I (inl, deps, cuts, c.2.2.2.1, ((b_eA c.2.1 0).2.2, c.2.2.1), hs, some T.2.2) M (some z) := by
        intro y hy T' hT' l' m' ⟨zs', f1, f2, f3, f4⟩
        obtain ⟨b, f5, f6⟩ := f4 z rfl
        exact ih y hy T' hT' b (by omega) l' m' ⟨zs', f1, f2, f3, f5⟩
      have K := b_from_ok hH hsG hF (Z := (inl, deps, cuts, c.2.2.2.1, ((b_eA c.2.1 0).2.2, c.2.2.1), hs, some T.2.2)) hd hhd h2.2 (m0 := m) (v := zs) (ps := [(M, x.1, l, [])]) (m := m) ⟨e1, ⟨⟨rfl, hsrt, ⟨J, jl, d1, d2, d3⟩, e2, trivial⟩, trivial⟩, e3, q_same.rf, fun f hf => by cases hf; rfl, e4⟩
      obtain ⟨k, r, m1, r1, r2⟩ := K
      exact ⟨k, r, m1, r1, r2⟩
  have hhd : bc_hd G F I (inl, deps, cuts, c.2.2.2.1, ((b_eA c.2.1 0).2.2, c.2.2.1), hs, none) M none := by
    intro y hy T' hT' l' m' ⟨zs', f1, f2, f3, _⟩
    have h3 := List.all_eq_true.mp hh y hy
    split at h3
    rotate_left
    · cases h3
    have h4 := List.all_eq_true.mp h3 T' hT'
    rw [Bool.and_eq_true] at h4
    have hex : ∃ z, b_is zs' T'.2.2 z := by
      have h5 := h4.1
      unfold b_ent at h5
      split at h5
      · rename_i p hp
        exact b_iv_ex f1.2.1 (by rw [hp]; rfl)
      · cases h5
    obtain ⟨z, hz⟩ := hex
    exact claim z.toNat y hy T' hT' z (by omega) l' m' ⟨zs', f1, f2, f3, hz⟩
  split at h0
  rotate_left
  · cases h0
  rename_i cd hcd
  obtain ⟨J, jl, d1, d2, d3⟩ := a_at_ok hcd (List.suffix_refl _)
  obtain ⟨a1, a2, a3⟩ := b_eA_ok [] ha
  simp only [List.nil_append, List.length_nil] at a1 a2 a3
  have K := b_from_ok hH hsG hF (Z := (inl, deps, cuts, c.2.2.2.1, ((b_eA c.2.1 0).2.2, c.2.2.1), hs, none)) hd hhd h0 (m0 := m) (v := zs) (ps := [(M, 0, lv_args 0 ys, [])]) (m := m) ⟨⟨a1.symm, a2, fun x hx => by (cases hx), fun o ho => by (cases ho), hq⟩, ⟨⟨rfl, hsrt, ⟨J, jl, d1, d2, d3⟩, b_lvs_ok 0 a3, trivial⟩, trivial⟩, hI, q_same.rf, fun f hf => by cases hf; rfl, trivial⟩
  obtain ⟨k, r, m1, r1, r2, r3, o, o1, o2⟩ := K
  refine ⟨k, r, m1, r1, r2, r3, o, o1, ?_⟩
  have close : ∀ (w : List Int) (z : Option Int) (ts : List b_Q), (∀ x, z = some x → w[(b_eA c.2.1 0).2.2]? = some x) → (∀ t ∈ ts, bc_tk F m1 (b_eA c.2.1 0).2.2 z t) → ∀ t ∈ ts, bg_Q F w m1 t := by
    intro w z ts hw h t ht
    obtain ⟨ys, y1, y2⟩ := h t ht
    refine ⟨ys, ?_, y1⟩
    refine g_2_mono (fun a y hy => ?_) y2
    rcases hy with ⟨e1, e2⟩ | ⟨x, e1, e2, e3⟩
    · exact ⟨0, by rw [e1]; rfl, by omega⟩
    · have := hw x e1
      exact ⟨1 * x + 0, by rw [e2]; exact b_vs_cons.mpr ⟨x, 0, this, rfl, rfl⟩, by omega⟩
  obtain ⟨ou, ots⟩ := o
  unfold bc_out
  simp only at o2 ⊢
  cases ou with
  | none =>
    cases r with
    | none => exact close zs none _ (fun x hx => by cases hx) o2
    | some y => exact o2.elim
  | some b =>
    obtain ⟨lg, lo, hi⟩ := b
    cases r with
    | none => exact o2.elim
    | some y =>
      obtain ⟨z, z1, z2, z3, z4⟩ := o2
      exact ⟨z, z1, z2, z3, close (zs ++ [z]) (some z) _ (fun x hx => by cases hx; rw [a1]; simp) z4⟩
end BCON
end
section
/-! A MEMORY OF THE FIXED SHAPE is what stands at its places -/
def bi_sz (N : Nat) (x : b_I) : Prop := match x with
  | .inl (_, n, _) => n ≤ N
  | .inr (_, fs) => fs.length ≤ N
theorem g_2_ln {α β : Type} {R : α → β → Prop} : ∀ {as : List α} {bs : List β}, g_2 R as bs → bs.length = as.length
  | [], [], _ => rfl
  | _ :: _, _ :: _, h => by
    have := g_2_ln h.2
    simp [this]
  | [], _ :: _, h => h.elim
  | _ :: _, [], h => h.elim
theorem bi_ext {I : List b_I} {m m1 : q_M} {N : Nat} (hM : bi_M I m) (hM1 : bi_M I m1) (hs : ∀ x ∈ I, bi_sz N x) (hq : ∀ c j, c < I.length → j ≤ N → q_at m1 c j = q_at m c j) : m1 = m := by
  apply List.ext_getElem?
  intro c
  by_cases hc : c < I.length
  rotate_left
  · rw [List.getElem?_eq_none (by rw [g_2_ln hM1]; omega), List.getElem?_eq_none (by rw [g_2_ln hM]; omega)]
  have hI : I[c]? = some I[c] := List.getElem?_eq_getElem hc
  have hx := hs _ (List.getElem_mem hc)
  obtain ⟨y, hy, b⟩ := bi_get hM hI
  obtain ⟨y1, hy1, b1⟩ := bi_get hM1 hI
  rw [hy, hy1]
  have hq := fun j => hq c j hc
  generalize I[c] = x at *
  match x, b, b1, hx with
  | .inl (t, n, .inl (ex, lo, hi)), ⟨f, e, _, _, hf⟩, ⟨f1, e1, _, _, hf1⟩, hx =>
    have hx : n ≤ N := hx
    subst e e1
    have : f1 = f := by
      funext j
      by_cases hj : j ≤ N
      · have := hq j hj
        rw [q_at_int hy, q_at_int hy1] at this
        exact Value.int.inj this
      · rw [hf j (by omega), hf1 j (by omega)]
    rw [this]
  | .inl (t, n, .inr (.inl _)), ⟨f, e, hf⟩, ⟨f1, e1, hf1⟩, hx =>
    have hx : n ≤ N := hx
    subst e e1
    have : f1 = f := by
      funext j
      by_cases hj : j ≤ N
      · have := hq j hj
        rw [q_at_long hy, q_at_long hy1] at this
        exact Value.long.inj this
      · rw [hf j (by omega), hf1 j (by omega)]
    rw [this]
  | .inl (t, n, .inr (.inr rs)), ⟨f, e, _, hf⟩, ⟨f1, e1, _, hf1⟩, _ =>
    subst e e1
    have : f1 = f := by
      funext j
      rw [hf j, hf1 j]
    rw [this]
  | .inr (ci, fs), ⟨vs, e, hv⟩, ⟨vs1, e1, hv1⟩, hx =>
    have hx : fs.length ≤ N := hx
    subst e e1
    have l := g_2_ln hv
    have l1 := g_2_ln hv1
    have : vs1 = vs := by
      apply List.ext_getElem (by omega)
      intro j h1 h2
      have := hq j (by omega)
      rw [q_at_obj hy, q_at_obj hy1] at this
      simpa [List.getD, h1, h2] using this
    rw [this]
/-- what a call gives back, by the memory -/
abbrev r_K : Type := Nat → Int → q_M → Prop
end
section
/-! TOKENS OF THE JOININGS: girlsOf (101), boysOf (102), isBoy (103), ways (104), mayBe (107), toldMany (93, 19), oneOf (93, 20) of the reference -/
def q_i (m : q_M) (c j : Nat) : Int := match q_at m c j with
  | .int z => z.toInt
  | _ => 0
theorem q_i_eq {m m1 : q_M} {c j : Nat} (h : q_at m1 c j = q_at m c j) : q_i m1 c j = q_i m c j := by
  unfold q_i
  rw [h]
/-- a row, nothing behind its end -/
def q_w (m : q_M) (c n j : Nat) : Int := if j < n then q_i m c j else 0
theorem q_w_at {m : q_M} {c n j : Nat} (h : j < n) : q_w m c n j = q_i m c j := if_pos h
theorem q_w_eq {m m1 : q_M} {c n : Nat} (h : ∀ j, j < n → q_at m1 c j = q_at m c j) : q_w m1 c n = q_w m c n := by
  funext j
  unfold q_w
  split
  · exact q_i_eq (h j (by assumption))
  · rfl
theorem q_w_up {m m1 : q_M} {c n j : Nat} (hj : j < n) (h : ∀ k, k ≠ j → q_at m1 c k = q_at m c k) : q_w m1 c n = fun k => if k = j then q_i m1 c j else q_w m c n k := by
  funext k
  by_cases e : k = j
  · subst e
    simp only [if_pos rfl]
    exact q_w_at hj
  · rw [if_neg e]
    unfold q_w
    split
    · exact q_i_eq (h k e)
    · rfl
/-- how many bits; the lowest; Bell's numbers -/
def j_bits (n : Nat) : Nat := n % 2 + n / 2 % 2 + n / 4 % 2 + n / 8 % 2 + n / 16 % 2 + n / 32 % 2 + n / 64 % 2 + n / 128 % 2 + n / 256 % 2 + n / 512 % 2
def j_fst (n : Nat) : Nat := if n % 2 = 1 then 0 else if n / 2 % 2 = 1 then 1 else if n / 4 % 2 = 1 then 2 else if n / 8 % 2 = 1 then 3 else if n / 16 % 2 = 1 then 4 else if n / 32 % 2 = 1 then 5 else if n / 64 % 2 = 1 then 6 else if n / 128 % 2 = 1 then 7 else if n / 256 % 2 = 1 then 8 else 9
def j_bell (b : Nat) : Nat := match b with
  | 0 => 1 | 1 => 1 | 2 => 2 | 3 => 5 | 4 => 15 | 5 => 52 | 6 => 203 | 7 => 877 | 8 => 4140 | 9 => 21147
  | _ => 115975
def j_nx (s o : Nat) : Nat := Nat.land (o - 1) s
/-- what is still to be added, at most -/
def j_rem (s : Nat) : Nat → Nat → Nat
  | 0, _ => 0
  | f + 1, o => if o = 0 then 0 else (if o / 2 ^ j_fst s % 2 = 1 then j_bell (j_bits (s - o)) else 0) + j_rem s f (j_nx s o)
/-- what holds of a set and a part of it, and of the parts behind it -/
def j_c1 (n o : Nat) : Bool := Nat.ble (2 ^ j_fst n) o && (Nat.ble o n && ((Nat.beq o (2 ^ j_fst n) || Nat.ble (2 ^ j_fst n) (j_nx n o)) && (decide ((Int32.ofNat n &&& Int32.ofInt (-1 - o)).toInt = ((n - o : Nat) : Int)) && decide ((Int32.ofInt ((o : Int) - 1) &&& Int32.ofNat n).toInt = (j_nx n o : Int)))))
def j_ck (n : Nat) : Nat → Nat → Bool
  | 0, _ => true
  | f + 1, o => Nat.beq o 0 || (j_c1 n o && j_ck n f (j_nx n o))
def j_sum (W : Nat → Int) (b : Nat) : Nat → Int
  | 0 => 0
  | n + 1 => j_sum W b n + W (b + n)
def j_ok (W : Nat → Int) (t : Nat) : Prop := (∀ k, k < 11 → 0 ≤ W (11 * t + k)) ∧ j_sum W (11 * t) 11 ≤ j_bell (j_bits t) ∧ 1 ≤ W (11 * t + j_bits t)
/-- rows before are good; this one so far: x is what may still come -/
def j_at (W : Nat → Int) (n : Nat) (x : Int) (lo : Prop) : Prop := (∀ t, t < n → j_ok W t) ∧ (∀ k, k < 11 → 0 ≤ W (11 * n + k)) ∧ j_sum W (11 * n) 11 + x ≤ j_bell (j_bits n) ∧ (lo → 1 ≤ W (11 * n + j_bits n))
def r_Pa (g : Int) (id : Nat) (zs : List Int) : Prop := match id, zs with
  | 136, [s] => s = g
  | 154, [s, f] => ∃ n : Nat, s = n ∧ 1 ≤ n ∧ n < 1024 ∧ f = j_fst n
  | 156, [z, x, y] => ∃ a b : Int32, a.toInt = x ∧ b.toInt = y ∧ (a &&& b).toInt = z
  | 158, [s, o] => ∃ n q : Nat, s = n ∧ o = q ∧ q < 1024 ∧ g = 1024 * n + q
  | 160, [s, o] => ∃ n q : Nat, s = n ∧ o = q ∧ q / 2 ^ j_fst n % 2 = 1
  | _, _ => True
def r_Pb (id : Nat) (zs : List Int) (O : Int) : Prop := match id, zs with
  | 140, [] => O = -1
  | _, _ => True
def r_Pc (g : Int) (id : Nat) (zs : List Int) (N : Int) (G Y B : Nat → Int) : Prop := match id, zs with
  | 134, [c] => ∀ i : Nat, (i : Int) < c → i < 10 → 1 ≤ G i + B i ∧ B i ≤ Y i
  | 144, [] => ∀ i : Nat, (i : Int) < N → i < 10 → 1 ≤ G i + B i ∧ B i ≤ Y i
  | 137, [r] => ∀ k : Nat, k < 10 → (k : Int) < N → g = (2 ^ k : Nat) → r ≠ 0
  | 138, [s, r] => ∀ k : Nat, k < 10 → (k : Int) < N → s = (2 ^ k : Nat) → r ≠ 0
  | 139, [f, u, b, i] => ∀ k : Nat, k < 10 → (k : Int) < N → g = (2 ^ k : Nat) → (i ≤ k → f = -1 ∧ u = 0 ∧ b = 0) ∧ (k < i → f = k ∧ u = 1 - B k ∧ b = B k)
  | _, _ => True
def r_Pd (id : Nat) (zs : List Int) (N : Int) (Y : Nat → Int) : Prop := match id, zs with
  | 135, [s] => ∀ k : Nat, k < 10 → (k : Int) < N → ((2 ^ k : Nat) : Int) < s → Y (2 ^ k) ≠ 0
  | _, _ => True
def r_Pe (g : Int) (id : Nat) (zs : List Int) (N : Int) (W : Nat → Int) : Prop := match id, zs with
  | 150, [s] => ∀ t : Nat, (t : Int) < s → t < 1024 → j_ok W t
  | 151, [s, c] => ∃ n : Nat, s = n ∧ n < 1024 ∧ (∀ t, t < n → j_ok W t) ∧ ∀ k : Nat, (k : Int) < c → k < 11 → W (11 * n + k) = if n = 0 ∧ k = 0 then 1 else 0
  | 152, [s, o] => ∃ n q : Nat, s = n ∧ o = q ∧ n < 1024 ∧ j_ck n 1024 q = true ∧ j_at W n (j_rem n 1024 q) (q < 2 ^ j_fst n)
  | 153, [s, o] => ∃ n q : Nat, s = n ∧ o = q ∧ n < 1024 ∧ 1 ≤ q ∧ j_ck n 1024 q = true ∧ j_at W n (j_rem n 1024 (j_nx n q)) (j_nx n q < 2 ^ j_fst n)
  | 157, [s, o, r, c] => ∃ n q e : Nat, s = n ∧ o = q ∧ r = ((n - q : Nat) : Int) ∧ c = e ∧ e ≤ 10 ∧ n < 1024 ∧ 1 ≤ q ∧ j_ck n 1024 q = true ∧ g = 1024 * n + q ∧ j_at W n (j_sum W (11 * (n - q) + e) (10 - e) + j_rem n 1024 (j_nx n q)) (q ≤ 2 ^ j_fst n ∧ j_bits n ≤ e)
  | 161, [] => ∃ n q : Nat, g = 1024 * n + q ∧ q < 1024 ∧ n < 1024 ∧ 1 ≤ q ∧ j_ck n 1024 q = true ∧ j_at W n (j_rem n 1024 (j_nx n q)) (j_nx n q < 2 ^ j_fst n)
  | 130, [] => ∃ n : Nat, N = n ∧ n ≤ 10 ∧ j_ok W (2 ^ n - 1)
  | 131, [c] => ∃ n : Nat, N = n ∧ n ≤ 10 ∧ ∃ k : Nat, k < 11 ∧ c ≤ k ∧ W (11 * (2 ^ n - 1) + k) ≠ 0
  | 132, [c] => ∃ n : Nat, N = n ∧ n ≤ 10 ∧ ∃ k : Nat, k < 11 ∧ k ≤ c ∧ W (11 * (2 ^ n - 1) + k) ≠ 0
  | 133, [c, s] => ∃ n e : Nat, N = n ∧ n ≤ 10 ∧ c = e ∧ e ≤ 11 ∧ s = j_sum W (11 * (2 ^ n - 1)) e ∧ j_ok W (2 ^ n - 1)
  | _, _ => True
def r_k6 (id : Nat) : Nat := match id with
  | 136 => 1 | 154 => 1 | 156 => 1 | 158 => 1 | 160 => 1
  | 140 => 2
  | 134 => 3 | 144 => 3 | 137 => 3 | 138 => 3 | 139 => 3
  | 135 => 4
  | 150 => 5 | 151 => 5 | 152 => 5 | 153 => 5 | 157 => 5 | 161 => 5 | 130 => 5 | 131 => 5 | 132 => 5 | 133 => 5
  | _ => 0
def r_F6 (g : Int) (id : Nat) (zs : List Int) (m : q_M) : Prop := match r_k6 id with
  | 1 => r_Pa g id zs
  | 2 => r_Pb id zs (q_i m 93 20)
  | 3 => r_Pc g id zs (q_i m 93 19) (q_w m 101 10) (q_w m 102 10) (q_w m 103 10)
  | 4 => r_Pd id zs (q_i m 93 19) (q_w m 107 1024)
  | 5 => r_Pe g id zs (q_i m 93 19) (q_w m 104 11264)
  | _ => True
def r_fp6 (id : Nat) : b_W := match r_k6 id with
  | 2 => [(93, 20, 20)]
  | 3 => [(93, 19, 19), (101, 0, 9), (102, 0, 9), (103, 0, 9)]
  | 4 => [(93, 19, 19), (107, 0, 1023)]
  | 5 => [(93, 19, 19), (104, 0, 11263)]
  | _ => []
theorem r_bgF6 {g : Int} {I : List b_I} : bg_F I r_fp6 (r_F6 g) := by
  intro id zs m m1 hM hM1 hp hF
  unfold r_F6 at hF ⊢
  unfold r_fp6 at hp
  split at hF
  · exact hF
  · rename_i hk
    simp only [hk] at hp ⊢
    rw [q_i_eq (hp 93 20 ⟨(93, 20, 20), by simp, rfl, Nat.le_refl _, Nat.le_refl _⟩)]
    exact hF
  · rename_i hk
    simp only [hk] at hp ⊢
    rw [q_i_eq (hp 93 19 ⟨(93, 19, 19), by simp, rfl, Nat.le_refl _, Nat.le_refl _⟩), q_w_eq (c := 101) (n := 10) (fun j hj => hp 101 j ⟨(101, 0, 9), by simp, rfl, Nat.zero_le _, by show j ≤ 9; omega⟩), q_w_eq (c := 102) (n := 10) (fun j hj => hp 102 j ⟨(102, 0, 9), by simp, rfl, Nat.zero_le _, by show j ≤ 9; omega⟩), q_w_eq (c := 103) (n := 10) (fun j hj => hp 103 j ⟨(103, 0, 9), by simp, rfl, Nat.zero_le _, by show j ≤ 9; omega⟩)]
    exact hF
  · rename_i hk
    simp only [hk] at hp ⊢
    rw [q_i_eq (hp 93 19 ⟨(93, 19, 19), by simp, rfl, Nat.le_refl _, Nat.le_refl _⟩), q_w_eq (c := 107) (n := 1024) (fun j hj => hp 107 j ⟨(107, 0, 1023), by simp, rfl, Nat.zero_le _, by show j ≤ 1023; omega⟩)]
    exact hF
  · rename_i hk
    simp only [hk] at hp ⊢
    rw [q_i_eq (hp 93 19 ⟨(93, 19, 19), by simp, rfl, Nat.le_refl _, Nat.le_refl _⟩), q_w_eq (c := 104) (n := 11264) (fun j hj => hp 104 j ⟨(104, 0, 11263), by simp, rfl, Nat.zero_le _, by show j ≤ 11263; omega⟩)]
    exact hF
  · trivial
end
section
/-! TOKENS OF THE READING'S END: at (93, 8), token (93, 10), faultKind (93, 12), tape (97), fresh (99) of the reference; g: a place of the text -/
section T5
variable {g : Int}
def r_lo (x : Int) : Int := (Int32.ofInt x &&& 255).toInt
def r_F5 (g : Int) (id : Nat) (zs : List Int) (m : q_M) : Prop := match id, zs with
  | 120, [] => g ≤ q_i m 93 8
  | 121, [] => g < q_i m 93 8
  | 122, [] => g < q_i m 93 8 ∨ q_i m 93 10 = 0
  | 123, [] => g < q_i m 93 8 ∨ q_i m 93 10 = 0 ∨ q_i m 93 12 ≠ 0
  | 124, [c] => 0 ≤ q_i m 93 8 ∧ q_i m 93 8 < 1200 ∧ r_lo (q_i m 97 (q_i m 93 8).toNat) = c
  | 125, [] => q_i m 93 10 = 0 ∨ q_i m 93 12 ≠ 0
  | 126, [c] => ∀ j : Nat, (j : Int) < c → j < 277 → q_i m 99 j = 0
  | 127, [r, s] => r = r_lo s
  | id, zs => r_F6 g id zs m
def r_kd5 (id : Nat) : Bool := match id with
  | 120 => true | 121 => true | 122 => true | 123 => true | 124 => true | 125 => true | 126 => true | 127 => true
  | _ => false
theorem r_F5_no {id : Nat} {zs : List Int} {m : q_M} (h : r_kd5 id = false) (h6 : r_k6 id = 0) : r_F5 g id zs m := by
  unfold r_F5
  split <;> first | (unfold r_F6; rw [h6]; trivial) | (exfalso; revert h; decide)
def r_fp5 (id : Nat) : b_W := match id with
  | 120 => [(93, 8, 8)]
  | 121 => [(93, 8, 8)]
  | 122 => [(93, 8, 8), (93, 10, 10)]
  | 123 => [(93, 8, 8), (93, 10, 10), (93, 12, 12)]
  | 124 => [(93, 8, 8), (97, 0, 1199)]
  | 125 => [(93, 10, 10), (93, 12, 12)]
  | 126 => [(99, 0, 276)]
  | 127 => []
  | id => r_fp6 id
theorem r_bgF5 {I : List b_I} : bg_F I r_fp5 (r_F5 g) := by
  intro id zs m m1 hM hM1 hp hF
  have e8 : b_plW (r_fp5 id) 93 8 → q_i m1 93 8 = q_i m 93 8 := fun h => q_i_eq (hp _ _ h)
  have e10 : b_plW (r_fp5 id) 93 10 → q_i m1 93 10 = q_i m 93 10 := fun h => q_i_eq (hp _ _ h)
  have e12 : b_plW (r_fp5 id) 93 12 → q_i m1 93 12 = q_i m 93 12 := fun h => q_i_eq (hp _ _ h)
  unfold r_F5 at hF ⊢
  split at hF
  · rw [e8 ⟨(93, 8, 8), by simp [r_fp5], rfl, Nat.le_refl _, Nat.le_refl _⟩]
    exact hF
  · rw [e8 ⟨(93, 8, 8), by simp [r_fp5], rfl, Nat.le_refl _, Nat.le_refl _⟩]
    exact hF
  · rw [e8 ⟨(93, 8, 8), by simp [r_fp5], rfl, Nat.le_refl _, Nat.le_refl _⟩, e10 ⟨(93, 10, 10), by simp [r_fp5], rfl, Nat.le_refl _, Nat.le_refl _⟩]
    exact hF
  · rw [e8 ⟨(93, 8, 8), by simp [r_fp5], rfl, Nat.le_refl _, Nat.le_refl _⟩, e10 ⟨(93, 10, 10), by simp [r_fp5], rfl, Nat.le_refl _, Nat.le_refl _⟩, e12 ⟨(93, 12, 12), by simp [r_fp5], rfl, Nat.le_refl _, Nat.le_refl _⟩]
    exact hF
  · obtain ⟨h1, h2, h3⟩ := hF
    rw [e8 ⟨(93, 8, 8), by simp [r_fp5], rfl, Nat.le_refl _, Nat.le_refl _⟩]
    refine ⟨h1, h2, ?_⟩
    rw [q_i_eq (hp 97 _ ⟨(97, 0, 1199), by simp [r_fp5], rfl, Nat.zero_le _, by show _ ≤ 1199; omega⟩)]
    exact h3
  · rw [e10 ⟨(93, 10, 10), by simp [r_fp5], rfl, Nat.le_refl _, Nat.le_refl _⟩, e12 ⟨(93, 12, 12), by simp [r_fp5], rfl, Nat.le_refl _, Nat.le_refl _⟩]
    exact hF
  · intro j h1 h2
    rw [q_i_eq (hp 99 j ⟨(99, 0, 276), by simp [r_fp5], rfl, Nat.zero_le _, by show _ ≤ 276; omega⟩)]
    exact hF j h1 h2
  · exact hF
  · cases hk : r_kd5 id with
    | false =>
      have e : r_fp5 id = r_fp6 id := by
        unfold r_fp5
        unfold r_kd5 at hk
        split <;> first | rfl | (exfalso; revert hk; decide)
      rw [e] at hp
      exact r_bgF6 id zs m m1 hM hM1 hp hF
    | true =>
      unfold r_kd5 at hk
      split at hk <;> first | (cases hk; done) | trivial
end T5
end
section
/-! TOKENS OF THE MARRIAGES: wife (108), askedBy (109), husband (110), queue (111) of the reference; g: the girl from whom one goes out -/
section T3
variable {g : Int}
/-- husbands are the wives' but for one -/
def z_inv (W H : Nat → Int) (ex : Int) : Prop := ∀ b : Nat, b < 20 → (b : Int) ≠ ex → ∀ k : Nat, k < 20 → W b = k → H k = b
/-- how many girls have a husband who is asked -/
def z_cg (A H : Nat → Int) : Nat → Nat
  | 0 => 0
  | n + 1 => z_cg A H n + (if 0 ≤ H n ∧ 0 ≤ A (H n).toNat then 1 else 0)
def z_ca (A : Nat → Int) : Nat → Nat
  | 0 => 0
  | n + 1 => z_ca A n + (if 0 ≤ A n then 1 else 0)
/-- ranks: those asked behind the girl who asks, she behind her own husband; below a limit -/
def z_rk (A H : Nat → Int) (g : Int) (rb rg : Nat → Nat) (rk : Nat → Prop) (lim : Nat) : Prop :=
  (∀ b : Nat, b < 20 → ∀ k : Nat, k < 20 → A b = k → rk k ∧ rg k < rb b)
  ∧ ∀ k : Nat, k < 20 → rk k → rg k < lim → (k : Int) ≤ g ∧ (H k = -1 ∨ ∃ b : Nat, b < 20 ∧ H k = b ∧ 0 ≤ A b ∧ rb b < rg k)
/-- the search: the queue's girls have ranks; P: what else -/
def z_bf (W A H Q : Nat → Int) (g : Int) (last : Int) (d : Nat) (P : (Nat → Prop) → Prop) : Prop := z_inv W H (-1) ∧ (0 ≤ g ∧ g < 20) ∧ (∀ k : Nat, k < 20 → g ≤ k → H k = -1)
  ∧ (∀ b : Nat, b < 20 → -1 ≤ A b ∧ A b < 20 ∧ -1 ≤ W b ∧ W b < 20 ∧ -1 ≤ H b ∧ H b < 20)
  ∧ ∃ (rb rg : Nat → Nat) (rk : Nat → Prop) (T : Nat), z_rk A H g rb rg rk 1000 ∧ (∀ b : Nat, b < 20 → 0 ≤ A b → rb b < T) ∧ (∀ k : Nat, k < 20 → rk k → rg k < T) ∧ T + d ≤ 1 + 2 * z_ca A 20
    ∧ (∀ j : Nat, j < 20 → (j : Int) < last → ∃ k : Nat, k < 20 ∧ Q j = k ∧ rk k) ∧ P rk
def r_kd3 (id : Nat) : Bool := match id with
  | 80 => true | 81 => true | 82 => true | 85 => true | 86 => true | 87 => true | 88 => true | 89 => true | 90 => true | 91 => true | 92 => true | 93 => true
  | _ => false
def r_F3 (g : Int) (id : Nat) (zs : List Int) (m : q_M) : Prop := match id, zs with
  | 80, [x] => z_inv (q_i m 108) (q_i m 110) (-1) ∧ ∀ k : Nat, k < 20 → x ≤ k → q_i m 110 k = -1
  | 85, [l] => z_bf (q_i m 108) (q_i m 109) (q_i m 110) (q_i m 111) g l 0 (fun _ => True) ∧ l ≤ 1 + z_cg (q_i m 109) (q_i m 110) 20
  | 81, [gg, l] => z_bf (q_i m 108) (q_i m 109) (q_i m 110) (q_i m 111) g l 0 (fun rk => ∃ k : Nat, k < 20 ∧ gg = k ∧ rk k) ∧ l ≤ 1 + z_cg (q_i m 109) (q_i m 110) 20
  | 86, [gg, b, l] => z_bf (q_i m 108) (q_i m 109) (q_i m 110) (q_i m 111) g l 1 (fun rk => ∃ k : Nat, k < 20 ∧ gg = k ∧ rk k) ∧ ∃ n : Nat, n < 20 ∧ b = n ∧ 0 ≤ q_i m 109 n ∧ (0 ≤ q_i m 108 n → l ≤ z_cg (q_i m 109) (q_i m 110) 20) ∧ ∀ k : Nat, k < 20 → q_i m 110 k = n → True
  | 82, [b, r] => z_inv (q_i m 108) (q_i m 110) b ∧ (∀ k : Nat, k < 20 → g < k → q_i m 110 k = -1) ∧ (∀ k : Nat, k < 20 → -1 ≤ q_i m 110 k ∧ q_i m 110 k < 20)
    ∧ (0 ≤ b → ∃ (n : Nat) (rb rg : Nat → Nat) (rk : Nat → Prop), b = n ∧ n < 20 ∧ (∃ k : Nat, k < 20 ∧ q_i m 109 n = k) ∧ (∀ j : Nat, j < 20 → q_i m 109 j < 20) ∧ z_rk (q_i m 109) (q_i m 110) g rb rg rk (rb n) ∧ (rb n : Int) ≤ r)
  | 87, [] => z_inv (q_i m 108) (q_i m 110) (-1) ∧ ∀ k : Nat, k < 20 → g < k → q_i m 110 k = -1
  | 88, [] => z_inv (q_i m 108) (q_i m 110) (-1) ∧ ∀ k : Nat, k < 20 → g ≤ k → q_i m 110 k = -1
  | 89, [x] => x = g ∧ 0 ≤ g ∧ g < 20
  | 90, [c] => ∀ k : Nat, k < 20 → (k : Int) < c → q_i m 108 k = -1 ∧ q_i m 110 k = -1
  | 91, [c] => (∀ k : Nat, k < 20 → (k : Int) < c → q_i m 108 k = -1 ∧ q_i m 110 k = -1) ∧ ∀ k : Nat, k < 20 → (k : Int) = c → q_i m 108 k = -1
  | 92, [c] => ∀ k : Nat, k < 20 → (k : Int) < c → q_i m 109 k = -1
  | 93, [b, gg, r] => ∃ n k : Nat, n < 20 ∧ k < 20 ∧ b = n ∧ gg = k ∧ q_i m 108 n = k ∧ q_i m 109 n = k ∧ z_inv (q_i m 108) (q_i m 110) b ∧ (∀ k : Nat, k < 20 → g < k → q_i m 110 k = -1) ∧ (∀ k : Nat, k < 20 → -1 ≤ q_i m 110 k ∧ q_i m 110 k < 20)
    ∧ (∀ j : Nat, j < 20 → q_i m 109 j < 20) ∧ ∃ (rb rg : Nat → Nat) (rk : Nat → Prop), z_rk (q_i m 109) (q_i m 110) g rb rg rk (rb n) ∧ (rb n : Int) ≤ r
  | id, zs => r_F5 g id zs m
def r_fp3 (id : Nat) : b_W := match r_kd3 id with
  | true => (match id with
    | 89 => []
    | 80 => [(108, 0, 19), (110, 0, 19)]
    | 87 => [(108, 0, 19), (110, 0, 19)]
    | 88 => [(108, 0, 19), (110, 0, 19)]
    | 90 => [(108, 0, 19), (110, 0, 19)]
    | 91 => [(108, 0, 19), (110, 0, 19)]
    | 92 => [(109, 0, 19)]
    | _ => [(108, 0, 19), (109, 0, 19), (110, 0, 19), (111, 0, 19)])
  | false => r_fp5 id
/-- the rows of the marriages -/
def r_Iok (I : List b_I) : Prop := I[108]? = some (.inl (0, 20, .inl ([], -1, 19))) ∧ I[109]? = some (.inl (0, 20, .inl ([], -1, 19))) ∧ I[110]? = some (.inl (0, 20, .inl ([], -1, 19))) ∧ I[111]? = some (.inl (0, 20, .inl ([], 0, 19))) ∧ I.length ≤ 200 ∧ ∀ x ∈ I, bi_sz 20000 x
theorem z_fun {I : List b_I} {m m1 : q_M} {c : Nat} {lo hi : Int} (hI : I[c]? = some (.inl (0, 20, .inl ([], lo, hi)))) (hM : bi_M I m) (hM1 : bi_M I m1) (h : ∀ j, j ≤ 19 → q_at m1 c j = q_at m c j) : q_i m1 c = q_i m c := by
  obtain ⟨y, hy, f, rfl, -, -, hf⟩ := bi_get hM hI
  obtain ⟨y1, hy1, f1, rfl, -, -, hf1⟩ := bi_get hM1 hI
  funext j
  by_cases hj : j ≤ 19
  · exact q_i_eq (h j hj)
  · apply q_i_eq
    rw [q_at_int hy, q_at_int hy1, hf j (by omega), hf1 j (by omega)]
theorem z_bd {I : List b_I} {m : q_M} {c : Nat} {lo hi : Int} (hI : I[c]? = some (.inl (0, 20, .inl ([], lo, hi)))) (hM : bi_M I m) : ∀ j, j < 20 → lo ≤ q_i m c j ∧ q_i m c j ≤ hi := by
  obtain ⟨y, hy, f, rfl, hb, -, -⟩ := bi_get hM hI
  intro j hj
  have := hb j hj
  unfold q_i
  rw [q_at_int hy]
  exact this
theorem r_bgF3 {I : List b_I} (hI : r_Iok I) : bg_F I r_fp3 (r_F3 g) := by
  intro id zs m m1 hM hM1 hp hF
  have e8 : (∀ j, j ≤ 19 → b_plW (r_fp3 id) 108 j) → q_i m1 108 = q_i m 108 := fun hh => z_fun hI.1 hM hM1 (fun j hj => hp 108 j (hh j hj))
  have e9 : (∀ j, j ≤ 19 → b_plW (r_fp3 id) 109 j) → q_i m1 109 = q_i m 109 := fun hh => z_fun hI.2.1 hM hM1 (fun j hj => hp 109 j (hh j hj))
  have e10 : (∀ j, j ≤ 19 → b_plW (r_fp3 id) 110 j) → q_i m1 110 = q_i m 110 := fun hh => z_fun hI.2.2.1 hM hM1 (fun j hj => hp 110 j (hh j hj))
  have e11 : (∀ j, j ≤ 19 → b_plW (r_fp3 id) 111 j) → q_i m1 111 = q_i m 111 := fun hh => z_fun hI.2.2.2.1 hM hM1 (fun j hj => hp 111 j (hh j hj))
  have a4 : ∀ c j : Nat, j ≤ 19 → c = 108 ∨ c = 109 ∨ c = 110 ∨ c = 111 → b_plW [(108, 0, 19), (109, 0, 19), (110, 0, 19), (111, 0, 19)] c j := by
    intro c j hj hc
    rcases hc with rfl | rfl | rfl | rfl
    · exact ⟨(108, 0, 19), by simp, rfl, Nat.zero_le _, hj⟩
    · exact ⟨(109, 0, 19), by simp, rfl, Nat.zero_le _, hj⟩
    · exact ⟨(110, 0, 19), by simp, rfl, Nat.zero_le _, hj⟩
    · exact ⟨(111, 0, 19), by simp, rfl, Nat.zero_le _, hj⟩
  have a2 : ∀ c j : Nat, j ≤ 19 → c = 108 ∨ c = 110 → b_plW [(108, 0, 19), (110, 0, 19)] c j := by
    intro c j hj hc
    rcases hc with rfl | rfl
    · exact ⟨(108, 0, 19), by simp, rfl, Nat.zero_le _, hj⟩
    · exact ⟨(110, 0, 19), by simp, rfl, Nat.zero_le _, hj⟩
  unfold r_F3 at hF ⊢
  split at hF
  · rw [e8 (fun j hj => a2 108 j hj (by simp)), e10 (fun j hj => a2 110 j hj (by simp))]
    exact hF
  · rw [e8 (fun j hj => a4 108 j hj (by simp)), e9 (fun j hj => a4 109 j hj (by simp)), e10 (fun j hj => a4 110 j hj (by simp)), e11 (fun j hj => a4 111 j hj (by simp))]
    exact hF
  · rw [e8 (fun j hj => a4 108 j hj (by simp)), e9 (fun j hj => a4 109 j hj (by simp)), e10 (fun j hj => a4 110 j hj (by simp)), e11 (fun j hj => a4 111 j hj (by simp))]
    exact hF
  · rw [e8 (fun j hj => a4 108 j hj (by simp)), e9 (fun j hj => a4 109 j hj (by simp)), e10 (fun j hj => a4 110 j hj (by simp)), e11 (fun j hj => a4 111 j hj (by simp))]
    exact hF
  · rw [e8 (fun j hj => a4 108 j hj (by simp)), e9 (fun j hj => a4 109 j hj (by simp)), e10 (fun j hj => a4 110 j hj (by simp))]
    exact hF
  · rw [e8 (fun j hj => a2 108 j hj (by simp)), e10 (fun j hj => a2 110 j hj (by simp))]
    exact hF
  · rw [e8 (fun j hj => a2 108 j hj (by simp)), e10 (fun j hj => a2 110 j hj (by simp))]
    exact hF
  · exact hF
  · rw [e8 (fun j hj => a2 108 j hj (by simp)), e10 (fun j hj => a2 110 j hj (by simp))]
    exact hF
  · rw [e8 (fun j hj => a2 108 j hj (by simp)), e10 (fun j hj => a2 110 j hj (by simp))]
    exact hF
  · rw [e9 (fun j hj => ⟨(109, 0, 19), List.mem_singleton.mpr rfl, rfl, Nat.zero_le _, hj⟩)]
    exact hF
  · rw [e8 (fun j hj => a4 108 j hj (by simp)), e9 (fun j hj => a4 109 j hj (by simp)), e10 (fun j hj => a4 110 j hj (by simp))]
    exact hF
  · cases hk : r_kd3 id with
    | false =>
      have e : r_fp3 id = r_fp5 id := by
        unfold r_fp3
        rw [hk]
      rw [e] at hp
      exact r_bgF5 id zs m m1 hM hM1 hp hF
    | true =>
      unfold r_kd3 at hk
      split at hk <;> first | (cases hk; done) | exact r_F5_no rfl rfl
end T3
end
section
/-! TOKENS OF ROWS AND BITS -/
section GH
variable {g : Int} {K : r_K}
def q_l (m : q_M) (c j : Nat) : Int := match q_at m c j with
  | .long z => z.toInt
  | _ => 0
theorem q_l_eq {m m1 : q_M} {c j : Nat} (h : q_at m1 c j = q_at m c j) : q_l m1 c j = q_l m c j := by
  unfold q_l
  rw [h]
/-- a three of the model's numbers is a child and a question -/
def r_3 (m : q_M) (s k : Nat) : Prop := (0 ≤ q_l m 116 (60 * s + 3 * k) ∧ q_l m 116 (60 * s + 3 * k) ≤ 19) ∧ 0 ≤ q_l m 116 (60 * s + 3 * k + 1) ∧ q_l m 116 (60 * s + 3 * k + 1) ≤ 5
/-- kinds: 0 rows of the class (60 .. 63), 1 the model's (70 .. 73), 2 the model's so far (74 .. 77), 3 bits -/
def r_kd (id : Nat) : Option (Nat × Nat) := match id with
  | 60 => some (0, 0) | 61 => some (0, 1) | 62 => some (0, 2) | 63 => some (0, 3)
  | 70 => some (1, 0) | 71 => some (1, 1) | 72 => some (1, 2) | 73 => some (1, 3)
  | 74 => some (2, 0) | 75 => some (2, 1) | 76 => some (2, 2) | 77 => some (2, 3)
  | 900 => some (3, 0) | 901 => some (3, 1) | 902 => some (3, 2) | 904 => some (3, 4) | 905 => some (3, 5) | 906 => some (3, 6)
  | _ => none
def r_F2 (K : r_K) (g : Int) (id : Nat) (zs : List Int) (m : q_M) : Prop := match r_kd id, zs with
  | some (0, r), [n] => ∀ i : Nat, (i : Int) < n → i < 20 → 0 ≤ q_l m (86 + 2 * r) (3 * i + 1) ∧ q_l m (86 + 2 * r) (3 * i + 1) ≤ 5
  | some (1, s), [] => ∀ k : Nat, ((3 * k : Nat) : Int) < q_i m 114 s → k < 20 → r_3 m s k
  | some (2, s), [i] => ∀ k : Nat, ((3 * k : Nat) : Int) < i → k < 20 → r_3 m s k
  | some (3, 0), [z, x, y] => ∃ a b : Int32, a.toInt = x ∧ b.toInt = y ∧ (a >>> (b &&& 31)).toInt = z
  | some (3, 1), [r, s] => ∃ a : Int32, a.toInt = s ∧ (a &&& 1).toInt = r
  | some (3, 2), [x, k] => ∃ n : Nat, k = n ∧ n ≤ 31 ∧ 0 ≤ x ∧ x % 2 ^ n = 0
  | some (3, 4), [x] => ∃ n : Nat, q_i m 93 19 = n ∧ n ≤ 10 ∧ x < 2 ^ n
  | some (3, 5), [a] => ∃ n : Nat, q_i m 93 19 = n ∧ n ≤ 10 ∧ a = 2 ^ n
  | some (3, 6), [z, y] => ∀ n : Nat, y = n → n ≤ 30 → z = 2 ^ n
  | some _, _ => True
  | none, zs => r_F3 g id zs m
def r_fp2 (id : Nat) : b_W := match r_kd id with
  | some (0, r) => [(86 + 2 * r, 0, 59)]
  | some (1, s) => [(114, s, s), (116, 60 * s, 60 * s + 59)]
  | some (2, s) => [(116, 60 * s, 60 * s + 59)]
  | some (3, 4) => [(93, 19, 19)]
  | some (3, 5) => [(93, 19, 19)]
  | some _ => []
  | none => r_fp3 id
theorem r_bgF2 {I : List b_I} (hI : r_Iok I) : bg_F I r_fp2 (r_F2 K g) := by
  intro id zs m m1 hI0 hI1 hp hF
  unfold r_fp2 at hp
  unfold r_F2 at hF ⊢
  split at hF
  · rename_i r n hk
    simp only [hk] at hp ⊢
    intro i h1 h2
    rw [q_l_eq (hp _ _ ⟨_, List.mem_singleton.mpr rfl, rfl, Nat.zero_le _, by show 3 * i + 1 ≤ 59; omega⟩)]
    exact hF i h1 h2
  · rename_i s hk
    simp only [hk] at hp ⊢
    intro k h1 h2
    rw [q_i_eq (hp _ _ ⟨_, List.mem_cons_self, rfl, Nat.le_refl _, Nat.le_refl _⟩)] at h1
    have h3 := hF k h1 h2
    unfold r_3 at h3 ⊢
    rw [q_l_eq (hp 116 (60 * s + 3 * k) ⟨_, List.mem_cons_of_mem _ List.mem_cons_self, rfl, by show 60 * s ≤ _; omega, by show _ ≤ 60 * s + 59; omega⟩), q_l_eq (hp 116 (60 * s + 3 * k + 1) ⟨_, List.mem_cons_of_mem _ List.mem_cons_self, rfl, by show 60 * s ≤ _; omega, by show _ ≤ 60 * s + 59; omega⟩)]
    exact h3
  · rename_i s i hk
    simp only [hk] at hp ⊢
    intro k h1 h2
    have h3 := hF k h1 h2
    unfold r_3 at h3 ⊢
    rw [q_l_eq (hp 116 (60 * s + 3 * k) ⟨_, List.mem_singleton.mpr rfl, rfl, by show 60 * s ≤ _; omega, by show _ ≤ 60 * s + 59; omega⟩), q_l_eq (hp 116 (60 * s + 3 * k + 1) ⟨_, List.mem_singleton.mpr rfl, rfl, by show 60 * s ≤ _; omega, by show _ ≤ 60 * s + 59; omega⟩)]
    exact h3
  · exact hF
  · exact hF
  · exact hF
  · rename_i hk
    simp only [hk] at hp ⊢
    rw [q_i_eq (hp 93 19 ⟨_, List.mem_singleton.mpr rfl, rfl, Nat.le_refl _, Nat.le_refl _⟩)]
    exact hF
  · rename_i hk
    simp only [hk] at hp ⊢
    rw [q_i_eq (hp 93 19 ⟨_, List.mem_singleton.mpr rfl, rfl, Nat.le_refl _, Nat.le_refl _⟩)]
    exact hF
  · exact hF
  · trivial
  · rename_i hk
    simp only [hk] at hp ⊢
    exact r_bgF3 hI id _ m m1 hI0 hI1 hp hF
end GH
end
section
/-! RULES PROVED BY HAND: what tokens mean, of the model's world (cell 94), images (95), fresh (99) -/
section GH
variable {g : Int} {K : r_K}
/-- how many of the first n are h -/
def r_cnt (f : Nat → Int) (h : Int) : Nat → Nat
  | 0 => 0
  | n + 1 => r_cnt f h n + (if f n = h then 1 else 0)
/-- homes are houses; no more than six in one -/
def r_blk (N H : Int) (f : Nat → Int) : Prop := (∀ k : Nat, k < 20 → (k : Int) < N → 0 ≤ f k ∧ f k < H) ∧ ∀ h, N ≤ 20 → r_cnt f h N.toNat ≤ 6
def r_home (m : q_M) (c b : Nat) (k : Nat) : Int := q_i m c (b + 7 + 6 * k)
def r_J (m : q_M) (c b : Nat) : Prop := r_blk (q_i m c (b + 3)) (q_i m c (b + 2)) (r_home m c b)
def r_jT (id : Nat) : Option (Nat × Nat) := match id with
  | 0 => some (94, 0)
  | 1 => some (99, 0)
  | 2 => some (95, 0)
  | 3 => some (95, 277)
  | 4 => some (95, 554)
  | _ => none
/-- copies: to, from -/
def r_cT (id : Nat) : Option ((Nat × Nat) × (Nat × Nat)) := match id with
  | 10 => some ((94, 0), (99, 0))
  | 11 => some ((95, 0), (94, 0))
  | 12 => some ((95, 277), (94, 0))
  | 13 => some ((95, 554), (94, 0))
  | 14 => some ((94, 0), (95, 0))
  | 15 => some ((94, 0), (95, 277))
  | 16 => some ((94, 0), (95, 554))
  | _ => none
def r_sch (m : q_M) (k : Nat) : Prop := q_i m 94 (11 + 6 * k) = 0 ∧ q_i m 94 (12 + 6 * k) = 0 ∧ q_i m 94 0 ≤ q_i m 94 (9 + 6 * k) ∧ q_i m 94 (9 + 6 * k) ≤ q_i m 94 1
def r_up (f : Nat → Int) (k : Nat) (z : Int) : Nat → Int := fun j => if j = k then z else f j
/-- the tokens -/
def r_F (K : r_K) (g : Int) (id : Nat) (zs : List Int) (m : q_M) : Prop := match r_jT id, zs with
  | some (c, b), [] => r_J m c b
  | some _, _ => True
  | none, zs => match r_cT id, zs with
    | some (d, s), [i] => ∀ j : Nat, (j : Int) < i → j < 277 → q_at m d.1 (d.2 + j) = q_at m s.1 (s.2 + j)
    | some _, _ => True
    | none, zs => match id, zs with
      | 20, [c, o, hc] => ∃ cn k : Nat, c = cn ∧ o = k ∧ cn < 20 ∧ k < 20 ∧ c < q_i m 94 3 ∧ o < q_i m 94 3 ∧ r_home m 94 0 cn = r_home m 94 0 k ∧ r_blk (q_i m 94 3) (q_i m 94 2) (r_up (r_home m 94 0) cn hc)
      | 21, [c] => 0 ≤ c ∧ c < 20 ∧ c < q_i m 94 3
      | 30, [h, c, n] => ∃ k : Nat, c = k ∧ k ≤ 20 ∧ n ≤ r_cnt (r_home m 94 0) h k
      | 32, [h] => ∃ k : Nat, k < 20 ∧ (k : Int) < q_i m 94 3 ∧ r_sch m k ∧ r_home m 94 0 k = h
      | 33, [h, c] => ∃ k : Nat, k < 20 ∧ (k : Int) < q_i m 94 3 ∧ r_sch m k ∧ r_home m 94 0 k = h ∧ c ≤ k
      | 34, [] => ∃ k : Nat, k < 20 ∧ (k : Int) < q_i m 94 3 ∧ r_sch m k
      | 35, [h] => ∃ k : Nat, k < 20 ∧ (k : Int) < q_i m 94 3 ∧ r_sch m k ∧ h ≤ r_home m 94 0 k
      | 38, [h] => ∃ k : Nat, k < 20 ∧ (k : Int) < q_i m 94 3 ∧ h ≤ r_home m 94 0 k
      | 39, [h] => ∃ k : Nat, k < 20 ∧ (k : Int) < q_i m 94 3 ∧ r_home m 94 0 k = h
      | 40, [h, c] => ∃ k : Nat, k < 20 ∧ (k : Int) < q_i m 94 3 ∧ r_home m 94 0 k = h ∧ c ≤ k
      | 97, [w, r] => K w.toNat r m
      | 41, [c, n] => ∃ k : Nat, c = k ∧ k ≤ 20 ∧ n = r_cnt (r_home m 99 0) g k
      | 42, [r] => ∃ k : Nat, q_i m 99 3 = k ∧ k ≤ 20 ∧ r = r_cnt (r_home m 99 0) g k
      | 43, [h] => h = g
      | 44, [h, r] => ∃ k : Nat, q_i m 99 3 = k ∧ k ≤ 20 ∧ r = r_cnt (r_home m 99 0) h k
      | id, zs => r_F2 K g id zs m
def r_hp (c b : Nat) : b_W := (c, b + 2, b + 3) :: (List.range 20).map (fun k => (c, b + 7 + 6 * k, b + 7 + 6 * k))
/-- their places -/
def r_fp (id : Nat) : b_W := match r_jT id with
  | some (c, b) => r_hp c b
  | none => match r_cT id with
    | some (d, s) => [(d.1, d.2, d.2 + 276), (s.1, s.2, s.2 + 276)]
    | none => match id with
      | 20 => r_hp 94 0
      | 21 => [(94, 3, 3)]
      | 30 => [(94, 0, 276)]
      | 32 => [(94, 0, 276)]
      | 33 => [(94, 0, 276)]
      | 34 => [(94, 0, 276)]
      | 35 => [(94, 0, 276)]
      | 38 => r_hp 94 0
      | 39 => r_hp 94 0
      | 40 => r_hp 94 0
      | 97 => (List.range 200).map (fun c => (c, 0, 20000))
      | 41 => [(99, 0, 276)]
      | 42 => [(99, 0, 276)]
      | 43 => []
      | 44 => [(99, 0, 276)]
      | id => r_fp2 id
theorem r_hp_in {c b k : Nat} (h : k < 20) : b_plW (r_hp c b) c (b + 7 + 6 * k) := ⟨_, List.mem_cons_of_mem _ (List.mem_map.mpr ⟨k, List.mem_range.mpr h, rfl⟩), rfl, Nat.le_refl _, Nat.le_refl _⟩
theorem r_hp_2 {c b : Nat} : b_plW (r_hp c b) c (b + 2) := ⟨_, List.mem_cons_self, rfl, by simp, by simp⟩
theorem r_hp_3 {c b : Nat} : b_plW (r_hp c b) c (b + 3) := ⟨_, List.mem_cons_self, rfl, by simp, by simp⟩
theorem r_cnt_congr {f g : Nat → Int} {h : Int} : ∀ {n : Nat}, (∀ k, k < n → f k = g k) → r_cnt f h n = r_cnt g h n
  | 0, _ => rfl
  | n + 1, hk => by
    unfold r_cnt
    rw [r_cnt_congr (fun k hk1 => hk k (by omega)), hk n (by omega)]
theorem r_blk_congr {N H : Int} {f g : Nat → Int} (h : ∀ k, k < 20 → f k = g k) (hb : r_blk N H f) : r_blk N H g := by
  refine ⟨fun k h1 h2 => ?_, fun x hN => ?_⟩
  · rw [← h k h1]
    exact hb.1 k h1 h2
  · rw [← r_cnt_congr (f := f) (fun k hk => h k (by omega))]
    exact hb.2 x hN
theorem r_cnt_mono {f : Nat → Int} {h : Int} : ∀ {n k : Nat}, k ≤ n → r_cnt f h k ≤ r_cnt f h n
  | 0, k, hk => by
    have : k = 0 := by omega
    subst this
    exact Nat.le_refl _
  | n + 1, k, hk => by
    by_cases e : k = n + 1
    · subst e
      exact Nat.le_refl _
    · have := r_cnt_mono (f := f) (h := h) (n := n) (k := k) (by omega)
      show r_cnt f h k ≤ r_cnt f h n + (if f n = h then 1 else 0)
      omega
/-- one changed: counts -/
theorem r_cnt_up {f : Nat → Int} {h z : Int} {k : Nat} : ∀ {n : Nat}, k < n → r_cnt (r_up f k z) h n + (if f k = h then 1 else 0) = r_cnt f h n + (if z = h then 1 else 0)
  | 0, hk => by omega
  | n + 1, hk => by
    unfold r_cnt
    by_cases e : k = n
    · subst e
      have e1 : r_cnt (r_up f k z) h k = r_cnt f h k := r_cnt_congr (fun j hj => by simp [r_up, show j ≠ k by omega])
      have e2 : r_up f k z k = z := by simp [r_up]
      rw [e1, e2]
      omega
    · have ih := r_cnt_up (f := f) (h := h) (z := z) (k := k) (n := n) (by omega)
      have e2 : r_up f k z n = f n := by simp [r_up, show n ≠ k by omega]
      rw [e2]
      omega
/-- homes traded -/
theorem r_swap {N H hc : Int} {f : Nat → Int} {c o : Nat} (hc20 : c < 20) (ho20 : o < 20) (hc1 : (c : Int) < N) (ho : (o : Int) < N) (he : f c = f o) (hb : r_blk N H (r_up f c hc)) : r_blk N H (r_up f o hc) := by
  by_cases hco : c = o
  · subst hco
    exact hb
  have hin := hb.1 c hc20 hc1
  have e1 : r_up f c hc c = hc := by simp [r_up]
  rw [e1] at hin
  have hio := hb.1 o ho20 ho
  have e2 : r_up f c hc o = f o := by simp [r_up, show o ≠ c from fun q => hco q.symm]
  rw [e2] at hio
  refine ⟨fun k h1 h2 => ?_, fun h hN => ?_⟩
  · unfold r_up
    split
    · exact hin
    · by_cases hk : k = c
      · subst hk
        rw [he]
        exact hio
      · have := hb.1 k h1 h2
        simpa [r_up, hk] using this
  · have k1 := r_cnt_up (f := f) (h := h) (z := hc) (k := c) (n := N.toNat) (by omega)
    have k2 := r_cnt_up (f := f) (h := h) (z := hc) (k := o) (n := N.toNat) (by omega)
    have k3 := hb.2 h hN
    rw [he] at k1
    omega
theorem r_bgF {I : List b_I} (hI : r_Iok I) : bg_F I r_fp (r_F K g) := by
  intro id zs m m1 hI0 hI1 hp hF
  have hJ : ∀ c b : Nat, (∀ a j, b_plW (r_hp c b) a j → q_at m1 a j = q_at m a j) → q_i m1 c (b + 3) = q_i m c (b + 3) ∧ q_i m1 c (b + 2) = q_i m c (b + 2) ∧ ∀ k, k < 20 → r_home m1 c b k = r_home m c b k := fun c b hh => ⟨q_i_eq (hh _ _ r_hp_3), q_i_eq (hh _ _ r_hp_2), fun k hk => q_i_eq (hh _ _ (r_hp_in hk))⟩
  have hW : (∀ a j, b_plW [(94, 0, 276)] a j → q_at m1 a j = q_at m a j) → (∀ j, j ≤ 276 → q_i m1 94 j = q_i m 94 j) := fun hh j hj => q_i_eq (hh 94 j ⟨_, List.mem_singleton.mpr rfl, rfl, Nat.zero_le _, hj⟩)
  have hS : (∀ j, j ≤ 276 → q_i m1 94 j = q_i m 94 j) → ∀ k, k < 20 → r_sch m k → r_sch m1 k := fun hw k hk ⟨s1, s2, s3, s4⟩ => ⟨by rw [hw _ (by omega)]; exact s1, by rw [hw _ (by omega)]; exact s2, by rw [hw 0 (by omega), hw _ (by omega)]; exact s3, by rw [hw 1 (by omega), hw _ (by omega)]; exact s4⟩
  unfold r_fp at hp
  unfold r_F at hF ⊢
  cases hj : r_jT id with
  | some q =>
    obtain ⟨c, b⟩ := q
    simp only [hj] at hp hF ⊢
    cases zs with
    | cons z zs => trivial
    | nil =>
      obtain ⟨h3, h2, hh⟩ := hJ c b hp
      simp only at hF ⊢
      unfold r_J at hF ⊢
      rw [h3, h2]
      exact r_blk_congr (fun k hk => (hh k hk).symm) hF
  | none =>
    simp only [hj] at hp hF ⊢
    cases hc : r_cT id with
    | some q =>
      obtain ⟨⟨d1, d2⟩, s1, s2⟩ := q
      simp only [hc] at hp hF ⊢
      match zs, hF with
      | [], _ => trivial
      | [i], hF =>
        intro j h1 h2
        rw [hp d1 (d2 + j) ⟨_, List.mem_cons_self, rfl, by simp, by show d2 + j ≤ d2 + 276; omega⟩, hp s1 (s2 + j) ⟨_, List.mem_cons_of_mem _ List.mem_cons_self, rfl, by simp, by show s2 + j ≤ s2 + 276; omega⟩]
        exact hF j h1 h2
      | _ :: _ :: _, _ => trivial
    | none =>
      simp only [hc] at hp hF ⊢
      split at hF
      · simp only at hp
        obtain ⟨h3, h2, hh⟩ := hJ 94 0 hp
        obtain ⟨cn, k, a1, a2, a3, a4, a5, a6, a7, a8⟩ := hF
        simp only [Nat.zero_add] at h3 h2
        refine ⟨cn, k, a1, a2, a3, a4, by rw [h3]; exact a5, by rw [h3]; exact a6, by rw [hh cn a3, hh k a4]; exact a7, ?_⟩
        rw [h3, h2]
        refine r_blk_congr (fun j hj => ?_) a8
        unfold r_up
        split
        · rfl
        · exact (hh j hj).symm
      · simp only at hp
        have h3 := q_i_eq (hp 94 3 ⟨_, List.mem_singleton.mpr rfl, rfl, Nat.le_refl _, Nat.le_refl _⟩)
        rw [h3]
        exact hF
      · -- 30
        simp only at hp
        have hw := hW hp
        obtain ⟨k, a1, a2, a3⟩ := hF
        refine ⟨k, a1, a2, ?_⟩
        rw [r_cnt_congr (f := r_home m1 94 0) (g := r_home m 94 0) (n := k) (fun j hj => hw (0 + 7 + 6 * j) (by omega))]
        exact a3
      · -- 32
        simp only at hp
        have hw := hW hp
        obtain ⟨k, a1, a2, a3, a4⟩ := hF
        exact ⟨k, a1, by rw [hw 3 (by omega)]; exact a2, hS hw k a1 a3, (hw _ (by omega)).trans a4⟩
      · -- 33
        simp only at hp
        have hw := hW hp
        obtain ⟨k, a1, a2, a3, a4, a5⟩ := hF
        exact ⟨k, a1, by rw [hw 3 (by omega)]; exact a2, hS hw k a1 a3, (hw _ (by omega)).trans a4, a5⟩
      · -- 34
        simp only at hp
        have hw := hW hp
        obtain ⟨k, a1, a2, a3⟩ := hF
        exact ⟨k, a1, by rw [hw 3 (by omega)]; exact a2, hS hw k a1 a3⟩
      · -- 35
        simp only at hp
        have hw := hW hp
        obtain ⟨k, a1, a2, a3, a4⟩ := hF
        exact ⟨k, a1, by rw [hw 3 (by omega)]; exact a2, hS hw k a1 a3, by rw [show r_home m1 94 0 k = r_home m 94 0 k from hw _ (by omega)]; exact a4⟩
      · -- 38
        simp only at hp
        obtain ⟨h3, h2, hh⟩ := hJ 94 0 hp
        simp only [Nat.zero_add] at h3 h2
        obtain ⟨k, a1, a2, a3⟩ := hF
        exact ⟨k, a1, by rw [h3]; exact a2, by rw [hh k a1]; exact a3⟩
      · -- 39
        simp only at hp
        obtain ⟨h3, h2, hh⟩ := hJ 94 0 hp
        simp only [Nat.zero_add] at h3 h2
        obtain ⟨k, a1, a2, a3⟩ := hF
        exact ⟨k, a1, by rw [h3]; exact a2, by rw [hh k a1]; exact a3⟩
      · -- 40
        simp only at hp
        obtain ⟨h3, h2, hh⟩ := hJ 94 0 hp
        simp only [Nat.zero_add] at h3 h2
        obtain ⟨k, a1, a2, a3, a4⟩ := hF
        exact ⟨k, a1, by rw [h3]; exact a2, by rw [hh k a1]; exact a3, a4⟩
      · -- 97
        simp only at hp
        have e := bi_ext hI0 hI1 hI.2.2.2.2.2 (fun c j hc hj => hp c j ⟨_, List.mem_map.mpr ⟨c, List.mem_range.mpr (by have := hI.2.2.2.2.1; omega), rfl⟩, rfl, Nat.zero_le _, hj⟩)
        rw [e]
        exact hF
      · -- 41
        simp only at hp
        have hw : ∀ j, j ≤ 276 → q_i m1 99 j = q_i m 99 j := fun j hj => q_i_eq (hp 99 j ⟨_, List.mem_singleton.mpr rfl, rfl, Nat.zero_le _, hj⟩)
        obtain ⟨k, a1, a2, a3⟩ := hF
        refine ⟨k, a1, a2, ?_⟩
        rw [r_cnt_congr (f := r_home m1 99 0) (g := r_home m 99 0) (n := k) (fun j hj => hw (0 + 7 + 6 * j) (by omega))]
        exact a3
      · -- 42
        simp only at hp
        have hw : ∀ j, j ≤ 276 → q_i m1 99 j = q_i m 99 j := fun j hj => q_i_eq (hp 99 j ⟨_, List.mem_singleton.mpr rfl, rfl, Nat.zero_le _, hj⟩)
        obtain ⟨k, a1, a2, a3⟩ := hF
        refine ⟨k, (hw 3 (by omega)).trans a1, a2, ?_⟩
        rw [r_cnt_congr (f := r_home m1 99 0) (g := r_home m 99 0) (n := k) (fun j hj => hw (0 + 7 + 6 * j) (by omega))]
        exact a3
      · -- 43
        exact hF
      · -- 44
        simp only at hp
        have hw : ∀ j, j ≤ 276 → q_i m1 99 j = q_i m 99 j := fun j hj => q_i_eq (hp 99 j ⟨_, List.mem_singleton.mpr rfl, rfl, Nat.zero_le _, hj⟩)
        obtain ⟨k, a1, a2, a3⟩ := hF
        refine ⟨k, (hw 3 (by omega)).trans a1, a2, ?_⟩
        rw [r_cnt_congr (f := r_home m1 99 0) (g := r_home m 99 0) (n := k) (fun j hj => hw (0 + 7 + 6 * j) (by omega))]
        exact a3
      · -- the others
        by_cases hk : r_kd id = none ∧ r_kd3 id = false ∧ r_kd5 id = false ∧ r_k6 id = 0
        · unfold r_F2 r_F3
          rw [hk.1]
          simp only
          have h3 := hk.2.1
          unfold r_kd3 at h3
          split <;> first | exact r_F5_no hk.2.2.1 hk.2.2.2 | (exfalso; revert h3; decide)
        · refine r_bgF2 hI id _ m m1 hI0 hI1 (fun c j h => hp c j ?_) hF
          split <;> first | exact h | (exact absurd ⟨rfl, rfl, rfl, rfl⟩ hk)
end GH
end
section
/-! THE RULES -/
section GH
variable {g : Int} {K : r_K}
def b_fm (E : b_E) (c : Nat) (t : b_T) : Option b_T := match b_mo E.2.2.2.1 c t with
  | some (false, e) => some e
  | _ => none
def r_sft (t : b_T) (d : Int) : b_T := (t.1, t.2 + d)
def r_has (E : b_E) (id : Nat) : Bool := E.2.2.2.2.any (fun u => Nat.beq u.1 id && u.2.isEmpty)
def r_ge (E : b_E) (a b : b_T) (d : Int) : Bool := b_ent E.2.1 E.2.2.1 (r_sft (b_ad a (-1) b) (-d))
section RULG
variable {v : List Int} {E : b_E} {m : q_M} {I : List b_I}
theorem r_sft_ok {t : b_T} {z d : Int} (h : b_is v t z) : b_is v (r_sft t d) (z + d) := by
  obtain ⟨s, h1, rfl⟩ := h
  exact ⟨s, h1, by show _ = s + (t.2 + d); omega⟩
/-- a - b is at least d -/
theorem r_ge_ok (hE : bg_E (r_F K g) v E m) {a b : b_T} {x y d : Int} (h : r_ge E a b d = true) (ha : b_is v a x) (hb : b_is v b y) : d ≤ x - y := by
  have := b_ent_ok hE.2.1 hE.2.2.1 h (r_sft_ok (b_is_ad (k := -1) ha hb))
  omega
theorem b_fm_ok (hE : bg_E (r_F K g) v E m) {c : Nat} {t e : b_T} {j : Nat} (h : b_fm E c t = some e) (hj : b_is v t (j : Int)) : (∃ z : Int32, q_at m c j = .int z ∧ b_is v e z.toInt) ∧ b_is v e (q_i m c j) := by
  unfold b_fm at h
  split at h
  rotate_left
  · cases h
  rename_i e1 he
  cases h
  obtain ⟨k, k1, k2⟩ := hE.2.2.2.1 _ (b_mo_ok he)
  have : (k : Int) = j := b_is_uniq k1 hj
  have : k = j := by omega
  subst this
  obtain ⟨z, z1, z2⟩ := k2
  simp only at z1 z2
  refine ⟨⟨z, z1, z2⟩, ?_⟩
  unfold q_i
  rw [z1]
  exact z2
theorem r_has_ok (hE : bg_E (r_F K g) v E m) {id : Nat} (h : r_has E id = true) : r_F K g id [] m := by
  obtain ⟨u, hu, h1⟩ := List.any_eq_true.mp h
  rw [Bool.and_eq_true] at h1
  obtain ⟨zs, z1, z2⟩ := hE.2.2.2.2 u hu
  have e : u.2 = [] := List.isEmpty_iff.mp h1.2
  rw [e] at z1
  have := g_na z1
  subst this
  rw [← Nat.eq_of_beq_eq_true h1.1]
  exact z2
theorem r_tok1 (hE : bg_E (r_F K g) v E m) {u : b_Q} (hu : u ∈ E.2.2.2.2) {a : b_T} (h : u.2 = [a]) : ∃ z, b_is v a z ∧ r_F K g u.1 [z] m := by
  obtain ⟨zs, z1, z2⟩ := hE.2.2.2.2 u hu
  rw [h] at z1
  obtain ⟨z, zs, rfl, hz, h1⟩ := g_ca z1
  have := g_na h1
  subst this
  exact ⟨z, hz, z2⟩
theorem r_tok2 (hE : bg_E (r_F K g) v E m) {u : b_Q} (hu : u ∈ E.2.2.2.2) {a b : b_T} (h : u.2 = [a, b]) : ∃ y z, b_is v a y ∧ b_is v b z ∧ r_F K g u.1 [y, z] m := by
  obtain ⟨zs, z1, z2⟩ := hE.2.2.2.2 u hu
  rw [h] at z1
  obtain ⟨y, ys, rfl, hy, h1⟩ := g_ca z1
  obtain ⟨z, zs, rfl, hz, h2⟩ := g_ca h1
  have := g_na h2
  subst this
  exact ⟨y, z, hy, hz, z2⟩
theorem r_tok3 (hE : bg_E (r_F K g) v E m) {u : b_Q} (hu : u ∈ E.2.2.2.2) {a b c : b_T} (h : u.2 = [a, b, c]) : ∃ x y z, b_is v a x ∧ b_is v b y ∧ b_is v c z ∧ r_F K g u.1 [x, y, z] m := by
  obtain ⟨zs, z1, z2⟩ := hE.2.2.2.2 u hu
  rw [h] at z1
  obtain ⟨x, xs, rfl, hx, h0⟩ := g_ca z1
  obtain ⟨y, ys, rfl, hy, h1⟩ := g_ca h0
  obtain ⟨z, zs, rfl, hz, h2⟩ := g_ca h1
  have := g_na h2
  subst this
  exact ⟨x, y, z, hx, hy, hz, z2⟩
end RULG
theorem r_cT_j {id : Nat} {q : (Nat × Nat) × (Nat × Nat)} (h : r_cT id = some q) : r_jT id = none := by
  unfold r_cT at h
  split at h <;> first | rfl | (cases h; done)
/-- copies go on -/
def r_stC (E : b_E) (c : Nat) (x : b_T) (e : b_N) : List b_Q := E.2.2.2.2.filterMap (fun u => match r_cT u.1, u.2 with
  | some (d, s), [t] => if d.1 ≠ s.1 ∧ c = d.1 ∧ e.1 = false ∧ b_eqv E x (r_sft t d.2) = true ∧ E.2.2.2.1.any (fun o => Nat.beq o.1 s.1 && decide (o.2.2 = e) && b_eqv E o.2.1 (r_sft t s.2)) = true then some (u.1, [r_sft t 1]) else none
  | _, _ => none)
def r_dv6 (l : List (Nat × Int)) : Bool := l.all (fun q => decide (q.2 % 6 = 0))
/-- a write off the homes -/
def r_stJ (E : b_E) (c : Nat) (x : b_T) : List b_Q := E.2.2.2.2.filterMap (fun u => match r_jT u.1, u.2 with
  | some (d, b), [] => if c = d ∧ b = 0 ∧ r_dv6 x.1 = true ∧ (x.2 - 7) % 6 ≠ 0 ∧ b_ent E.2.1 E.2.2.1 (r_sft x (-4)) = true then some (u.1, []) else none
  | _, _ => none)
theorem r_dv6_ok {v : List Int} : ∀ {l : List (Nat × Int)} {s : Int}, r_dv6 l = true → b_vs v l = some s → s % 6 = 0
  | [], s, _, h => by
    cases h
    rfl
  | q :: l, s, hd, h => by
    obtain ⟨w, r, h1, h2, rfl⟩ := b_vs_cons.mp h
    unfold r_dv6 at hd
    rw [List.all_cons, Bool.and_eq_true, decide_eq_true_eq] at hd
    have ih := r_dv6_ok (l := l) hd.2 h2
    have : (q.2 * w) % 6 = 0 := by
      rw [Int.mul_emod, hd.1]
      simp
    omega
section RULS
variable {v : List Int} {E : b_E} {m m1 : q_M} {I : List b_I} {c j : Nat} {x : b_T} {e : b_N}
theorem r_stC_ok (hE : bg_E (r_F K g) v E m) (hx : b_is v x (j : Int)) (hm : ∀ d k, ¬ (d = c ∧ k = j) → q_at m1 d k = q_at m d k) (he : bg_n v e (q_at m1 c j)) : ∀ t ∈ r_stC E c x e, bg_Q (r_F K g) v m1 t := by
  intro t ht
  obtain ⟨u, hu, h1⟩ := List.mem_filterMap.mp ht
  split at h1
  rotate_left
  · cases h1
  rename_i d s a hT hu2
  split at h1
  rotate_left
  · cases h1
  rename_i hc
  obtain ⟨hds, rfl, hlg, hxt, hfm⟩ := hc
  cases h1
  obtain ⟨z, z1, z2⟩ := r_tok1 hE hu hu2
  refine ⟨[z + 1], ⟨r_sft_ok z1, trivial⟩, ?_⟩
  have hjT := r_cT_j hT
  unfold r_F at z2 ⊢
  simp only [hjT, hT] at z2 ⊢
  have ej : (j : Int) = z + d.2 := b_eqv_ok hE hxt hx (r_sft_ok z1)
  intro k k1 k2
  rw [hm s.1 (s.2 + k) (fun q => hds q.1.symm)]
  by_cases hk : d.2 + k = j
  · rw [hk]
    have hzk : z = k := by omega
    subst hzk
    obtain ⟨o, ho, h9⟩ := List.any_eq_true.mp hfm
    simp only [Bool.and_eq_true, decide_eq_true_eq] at h9
    obtain ⟨⟨h91, h92⟩, h93⟩ := h9
    obtain ⟨i, i1, i2⟩ := hE.2.2.2.1 o ho
    have ei := b_eqv_ok hE h93 i1 (r_sft_ok z1)
    have ei : i = s.2 + k := by omega
    rw [h92, Nat.eq_of_beq_eq_true h91, ei] at i2
    obtain ⟨lg, e0⟩ := e
    simp only at hlg
    subst hlg
    obtain ⟨w, w1, w2⟩ := i2
    obtain ⟨w', w3, w4⟩ := he
    rw [w3, w1]
    have := b_is_uniq w4 w2
    rw [Int32.toInt_inj.mp this]
  · rw [hm d.1 (d.2 + k) (fun q => hk q.2)]
    exact z2 k (by omega) k2
theorem r_stJ_ok (hE : bg_E (r_F K g) v E m) (hx : b_is v x (j : Int)) (hm : ∀ d k, ¬ (d = c ∧ k = j) → q_at m1 d k = q_at m d k) : ∀ t ∈ r_stJ E c x, bg_Q (r_F K g) v m1 t := by
  intro t ht
  obtain ⟨u, hu, h1⟩ := List.mem_filterMap.mp ht
  split at h1
  rotate_left
  · cases h1
  rename_i d b hT hu2
  split at h1
  rotate_left
  · cases h1
  rename_i hc
  obtain ⟨rfl, rfl, h6, h7, h4⟩ := hc
  cases h1
  obtain ⟨zs, z1, z2⟩ := hE.2.2.2.2 u hu
  rw [hu2] at z1
  have := g_na z1
  subst this
  refine ⟨[], trivial, ?_⟩
  have h4 := b_ent_ok hE.2.1 hE.2.2.1 h4 (r_sft_ok hx)
  have hj6 : ((j : Int) - x.2) % 6 = 0 := by
    obtain ⟨s, s1, s2⟩ := hx
    have := r_dv6_ok h6 s1
    omega
  unfold r_F at z2 ⊢
  simp only [hT] at z2 ⊢
  unfold r_J at z2 ⊢
  have hq : ∀ k, k ≠ j → q_i m1 c k = q_i m c k := fun k hk => q_i_eq (hm c k (fun q => hk q.2))
  rw [hq (0 + 3) (by omega), hq (0 + 2) (by omega)]
  refine r_blk_congr (fun k hk => ?_) z2
  exact (hq (0 + 7 + 6 * k) (by omega)).symm
end RULS
end GH
end
section
section GH
variable {g : Int} {K : r_K}
def r_pl (t : b_T) (d : Int) : b_T := b_ad (b_c d) 6 t
theorem r_pl_ok {v : List Int} {t : b_T} {k : Nat} {d : Nat} (h : b_is v t (k : Int)) : b_is v (r_pl t d) ((d + 6 * k : Nat) : Int) := by
  have := b_is_ad (k := 6) (b_is_c (d : Int)) h
  rw [show ((d : Int) + 6 * (k : Int)) = ((d + 6 * k : Nat) : Int) by omega] at this
  exact this
/-- homes traded: the first write, the second -/
def r_stT (E : b_E) (c : Nat) (x : b_T) (e : b_N) : List b_Q := match decide (c = 94 ∧ e.1 = false) with
  | false => []
  | true => (match r_has E 0 with
    | true => E.2.2.2.2.flatMap (fun u => match decide (u.1 = 21), u.2, b_fm E 94 x with
      | true, [a], some hc => if r_pl a 7 = x then E.2.2.2.2.filterMap (fun w => match decide (w.1 = 21), w.2 with
        | true, [b] => if b_fm E 94 (r_pl b 7) = some e.2 then some (20, [a, b, hc]) else none
        | _, _ => none) else []
      | _, _, _ => [])
    | false => []) ++ E.2.2.2.2.filterMap (fun u => match decide (u.1 = 20), u.2 with
      | true, [_, b, hc] => if r_pl b 7 = x ∧ hc = e.2 then some (0, []) else none
      | _, _ => none)
section RULT
variable {v : List Int} {E : b_E} {m m1 : q_M} {c j : Nat} {x : b_T} {e : b_N}
theorem r_stT_ok (hE : bg_E (r_F K g) v E m) (hx : b_is v x (j : Int)) (hm : ∀ d k, ¬ (d = c ∧ k = j) → q_at m1 d k = q_at m d k) (he : bg_n v e (q_at m1 c j)) : ∀ t ∈ r_stT E c x e, bg_Q (r_F K g) v m1 t := by
  intro t ht
  unfold r_stT at ht
  split at ht
  · cases ht
  rename_i hd
  obtain ⟨rfl, hlg⟩ := of_decide_eq_true hd
  have hq : ∀ k, k ≠ j → q_i m1 94 k = q_i m 94 k := fun k hk => q_i_eq (hm 94 k (fun q => hk q.2))
  have hev : b_is v e.2 (q_i m1 94 j) := by
    obtain ⟨lg, e0⟩ := e
    simp only at hlg
    subst hlg
    obtain ⟨w, w1, w2⟩ := he
    unfold q_i
    rw [w1]
    exact w2
  rcases List.mem_append.mp ht with ht | ht
  · split at ht
    rotate_left
    · cases ht
    rename_i hJ
    have hJ := r_has_ok hE hJ
    obtain ⟨u, hu, ht⟩ := List.mem_flatMap.mp ht
    split at ht
    rotate_left
    · cases ht
    rename_i a hc h21 hu2 hfm
    split at ht
    rotate_left
    · cases ht
    rename_i hxa
    obtain ⟨w, hw, ht⟩ := List.mem_filterMap.mp ht
    split at ht
    rotate_left
    · cases ht
    rename_i b h21b hw2
    split at ht
    rotate_left
    · cases ht
    rename_i hfb
    cases ht
    obtain ⟨z, z1, z2⟩ := r_tok1 hE hu hu2
    rw [of_decide_eq_true h21] at z2
    obtain ⟨y, y1, y2⟩ := r_tok1 hE hw hw2
    rw [of_decide_eq_true h21b] at y2
    obtain ⟨z3, z4, z5⟩ : 0 ≤ z ∧ z < 20 ∧ z < q_i m 94 3 := z2
    obtain ⟨y3, y4, y5⟩ : 0 ≤ y ∧ y < 20 ∧ y < q_i m 94 3 := y2
    obtain ⟨cn, rfl⟩ : ∃ n : Nat, z = n := ⟨z.toNat, by omega⟩
    obtain ⟨k, rfl⟩ : ∃ n : Nat, y = n := ⟨y.toNat, by omega⟩
    have ej : j = 7 + 6 * cn := by
      rw [← hxa] at hx
      have := b_is_uniq hx (r_pl_ok (d := 7) z1)
      omega
    obtain ⟨-, hcv⟩ := b_fm_ok hE hfm hx
    obtain ⟨-, hbv⟩ := b_fm_ok hE hfb (r_pl_ok (d := 7) y1)
    have e1 : q_i m1 94 j = q_i m 94 (7 + 6 * k) := b_is_uniq hev hbv
    refine ⟨[(cn : Int), (k : Int), q_i m 94 j], ⟨z1, y1, hcv, trivial⟩, ?_⟩
    show ∃ cn' k' : Nat, (cn : Int) = cn' ∧ (k : Int) = k' ∧ cn' < 20 ∧ k' < 20 ∧ (cn : Int) < q_i m1 94 3 ∧ (k : Int) < q_i m1 94 3 ∧ r_home m1 94 0 cn' = r_home m1 94 0 k' ∧ r_blk (q_i m1 94 3) (q_i m1 94 2) (r_up (r_home m1 94 0) cn' (q_i m 94 j))
    rw [hq 3 (by omega), hq 2 (by omega)]
    refine ⟨cn, k, rfl, rfl, by omega, by omega, z5, y5, ?_, ?_⟩
    · by_cases hk : k = cn
      · rw [hk]
      · unfold r_home
        rw [show 0 + 7 + 6 * cn = j by omega, e1, hq (0 + 7 + 6 * k) (by omega), Nat.zero_add]
    · have hJ2 : r_blk (q_i m 94 3) (q_i m 94 2) (r_home m 94 0) := hJ
      refine r_blk_congr (fun i hi => ?_) hJ2
      unfold r_up r_home
      split
      · rename_i hic
        subst hic
        rw [show 0 + 7 + 6 * i = j by omega]
      · rw [hq (0 + 7 + 6 * i) (by omega)]
  · obtain ⟨u, hu, ht⟩ := List.mem_filterMap.mp ht
    split at ht
    rotate_left
    · cases ht
    rename_i a b hc h20 hu2
    split at ht
    rotate_left
    · cases ht
    rename_i hcond
    cases ht
    obtain ⟨z, y, w, z1, y1, w1, hF⟩ := r_tok3 hE hu hu2
    rw [of_decide_eq_true h20] at hF
    obtain ⟨cn, k, rfl, rfl, a1, a2, a3, a4, a5, a6⟩ : ∃ cn k : Nat, z = cn ∧ y = k ∧ cn < 20 ∧ k < 20 ∧ z < q_i m 94 3 ∧ y < q_i m 94 3 ∧ r_home m 94 0 cn = r_home m 94 0 k ∧ r_blk (q_i m 94 3) (q_i m 94 2) (r_up (r_home m 94 0) cn w) := hF
    have ej : j = 7 + 6 * k := by
      rw [← hcond.1] at hx
      have := b_is_uniq hx (r_pl_ok (d := 7) y1)
      omega
    rw [hcond.2] at w1
    have ew : q_i m1 94 j = w := b_is_uniq hev w1
    refine ⟨[], trivial, ?_⟩
    show r_blk (q_i m1 94 3) (q_i m1 94 2) (r_home m1 94 0)
    rw [hq 3 (by omega), hq 2 (by omega)]
    refine r_blk_congr (fun i hi => ?_) (r_swap a1 a2 a3 a4 a5 a6)
    unfold r_up r_home
    split
    · rename_i hic
      subst hic
      rw [show 0 + 7 + 6 * i = j by omega, ew]
    · rw [hq (0 + 7 + 6 * i) (by omega)]
end RULT
/-- evidence that the child at t is a scholar, that it is none of a house h -/
def r_yes (E : b_E) (t : b_T) : Bool := match b_fm E 94 (r_pl t 11), b_fm E 94 (r_pl t 12), b_fm E 94 (r_pl t 9), b_fm E 94 (b_c 0), b_fm E 94 (b_c 1) with
  | some d, some w, some a, some f, some o => b_eqv E d (b_c 0) && b_eqv E w (b_c 0) && r_ge E a f 0 && r_ge E o a 0
  | _, _, _, _, _ => false
def r_nz (E : b_E) (o : Option b_T) (h : b_T) : Bool := match o with
  | some e => r_ge E e h 1 || r_ge E h e 1
  | none => false
def r_no (E : b_E) (h t : b_T) : Bool := r_nz E (b_fm E 94 (r_pl t 7)) h || r_nz E (b_fm E 94 (r_pl t 11)) (b_c 0) || r_nz E (b_fm E 94 (r_pl t 12)) (b_c 0)
  || (match b_fm E 94 (r_pl t 9), b_fm E 94 (b_c 0) with | some a, some f => r_ge E f a 1 | _, _ => false)
  || (match b_fm E 94 (r_pl t 9), b_fm E 94 (b_c 1) with | some a, some o => r_ge E a o 1 | _, _ => false)
/-- t is a child: 0 ≤ t < 20, t < N -/
def r_chd (E : b_E) (t : b_T) : Bool := match b_fm E 94 (b_c 3) with
  | some n => r_ge E t (b_c 0) 0 && r_ge E (b_c 19) t 0 && r_ge E n t 1
  | none => false
section RULH
variable {v : List Int} {E : b_E} {m : q_M}
theorem r_cst (hE : bg_E (r_F K g) v E m) {c : Nat} {d : Nat} {e : b_T} (h : b_fm E c (b_c (d : Int)) = some e) : b_is v e (q_i m c d) := (b_fm_ok hE h (b_is_c _)).2
theorem r_yes_ok (hE : bg_E (r_F K g) v E m) {t : b_T} {k : Nat} (h : r_yes E t = true) (ht : b_is v t (k : Int)) : r_sch m k := by
  unfold r_yes at h
  split at h
  rotate_left
  · cases h
  rename_i d w a f o h1 h2 h3 h4 h5
  simp only [Bool.and_eq_true] at h
  have k1 := (b_fm_ok hE h1 (r_pl_ok (d := 11) ht)).2
  have k2 := (b_fm_ok hE h2 (r_pl_ok (d := 12) ht)).2
  have k3 := (b_fm_ok hE h3 (r_pl_ok (d := 9) ht)).2
  have k4 := r_cst hE (d := 0) h4
  have k5 := r_cst hE (d := 1) h5
  have c1 := b_eqv_ok hE h.1.1.1 k1 (b_is_c 0)
  have c2 := b_eqv_ok hE h.1.1.2 k2 (b_is_c 0)
  have c3 := r_ge_ok hE h.1.2 k3 k4
  have c4 := r_ge_ok hE h.2 k5 k3
  exact ⟨c1, c2, by omega, by omega⟩
theorem r_nz_ok (hE : bg_E (r_F K g) v E m) {c j : Nat} {p h : b_T} {z : Int} (hn : r_nz E (b_fm E c p) h = true) (hp : b_is v p (j : Int)) (hz : b_is v h z) : q_i m c j ≠ z := by
  unfold r_nz at hn
  split at hn
  · rename_i e he
    have k1 := (b_fm_ok hE he hp).2
    rw [Bool.or_eq_true] at hn
    rcases hn with hn | hn
    · have := r_ge_ok hE hn k1 hz
      omega
    · have := r_ge_ok hE hn hz k1
      omega
  · cases hn
theorem r_no_ok (hE : bg_E (r_F K g) v E m) {h t : b_T} {z : Int} {k : Nat} (hn : r_no E h t = true) (ht : b_is v t (k : Int)) (hz : b_is v h z) : ¬ (r_sch m k ∧ r_home m 94 0 k = z) := by
  rintro ⟨⟨s1, s2, s3, s4⟩, s5⟩
  unfold r_no at hn
  simp only [Bool.or_eq_true] at hn
  rcases hn with (((hn | hn) | hn) | hn) | hn
  · refine r_nz_ok hE hn (r_pl_ok (d := 7) ht) hz ?_
    rw [← s5]
    unfold r_home
    rw [Nat.zero_add]
  · exact r_nz_ok hE hn (r_pl_ok (d := 11) ht) (b_is_c 0) s1
  · exact r_nz_ok hE hn (r_pl_ok (d := 12) ht) (b_is_c 0) s2
  · split at hn
    · rename_i a f ha hf
      have := r_ge_ok hE hn (r_cst hE (d := 0) hf) (b_fm_ok hE ha (r_pl_ok (d := 9) ht)).2
      omega
    · cases hn
  · split at hn
    · rename_i a f ha hf
      have := r_ge_ok hE hn (b_fm_ok hE ha (r_pl_ok (d := 9) ht)).2 (r_cst hE (d := 1) hf)
      omega
    · cases hn
theorem r_chd_ok (hE : bg_E (r_F K g) v E m) {t : b_T} {z : Int} (h : r_chd E t = true) (hz : b_is v t z) : ∃ k : Nat, z = k ∧ k < 20 ∧ (k : Int) < q_i m 94 3 := by
  unfold r_chd at h
  split at h
  · rename_i n hn
    simp only [Bool.and_eq_true] at h
    have c1 := r_ge_ok hE h.1.1 hz (b_is_c 0)
    have c2 := r_ge_ok hE h.1.2 (b_is_c 19) hz
    have c3 := r_ge_ok hE h.2 (r_cst hE (d := 3) hn) hz
    exact ⟨z.toNat, by omega, by omega, by omega⟩
  · cases h
end RULH
end GH
end
section
section GH
variable {g : Int} {K : r_K}
def r_any (E : b_E) (id : Nat) (f : List b_T → Bool) : Bool := E.2.2.2.2.any (fun u => Nat.beq u.1 id && f u.2)
theorem r_any_ok {E : b_E} {id : Nat} {f : List b_T → Bool} (h : r_any E id f = true) : ∃ u ∈ E.2.2.2.2, u.1 = id ∧ f u.2 = true := by
  obtain ⟨u, hu, h1⟩ := List.any_eq_true.mp h
  rw [Bool.and_eq_true] at h1
  exact ⟨u, hu, Nat.eq_of_beq_eq_true h1.1, h1.2⟩
/-- the child of a place: (p - d) / 6 -/
def r_un (p : b_T) (d : Int) : b_T := (b_dv 6 p.1, (p.2 - d) / 6)
def r_hJ (E : b_E) (id : Nat) : Bool := match r_jT id with
  | none => false
  | some q => E.2.2.2.2.any (fun u => match r_cT u.1, u.2 with
    | some (d, s), [t] => decide (d = q) && r_ge E t (b_c 277) 0 && [0, 1, 2, 3, 4].any (fun i => decide (r_jT i = some s) && r_has E i)
    | _, _ => false)
/-- a token holds, by what is known -/
def r_hav (E : b_E) (id : Nat) (us : List b_T) : Bool := match us with
  | [] => (match id with
    | 34 => E.2.2.2.1.any (fun o => Nat.beq o.1 94 && (match r_un o.2.1 11 with | t => (b_iv E.2.1 t).isSome && r_chd E t && r_yes E t))
    | _ => r_hJ E id)
  | [a] => (match r_cT id with
    | some _ => r_ge E (b_c 0) a 0
    | none => (match id with
      | 21 => r_chd E a
      | 32 => E.2.2.2.1.any (fun o => Nat.beq o.1 94 && decide (o.2.2.1 = false) && b_eqv E o.2.2.2 a && (match r_un o.2.1 7 with | t => decide (r_pl t 7 = o.2.1) && (b_iv E.2.1 t).isSome && r_chd E t && r_yes E t))
      | 35 => r_ge E (b_c 0) a 0 && r_has E 34 && r_has E 0
      | 38 => r_ge E (b_c 0) a 0 && r_has E 0 && r_chd E (b_c 0)
      | _ => false))
  | [a, b] => (match id with
    | 33 => (r_ge E (b_c 0) b 0 && r_any E 32 (fun w => decide (w = [a]))) || r_any E 33 (fun w => match w with | [h0, c0] => decide (h0 = a ∧ b = r_sft c0 1) && r_no E a c0 | _ => false)
    | 40 => (r_ge E (b_c 0) b 0 && r_any E 39 (fun w => decide (w = [a]))) || r_any E 40 (fun w => match w with | [h0, c0] => decide (h0 = a ∧ b = r_sft c0 1) && r_nz E (b_fm E 94 (r_pl c0 7)) a | _ => false)
    | _ => false)
  | [h, c, n] => (match id with
    | 30 => (decide (c = b_c 0) && r_ge E (b_c 0) n 0) || r_any E 30 (fun w => match w with | [h0, c0, n0] => decide (h0 = h ∧ c = r_sft c0 1) && r_ge E (b_c 19) c0 0 && (r_ge E n0 n 0 || (match b_fm E 94 (r_pl c0 7) with | some e => b_eqv E e h && r_ge E n0 n (-1) | none => false)) | _ => false)
    | _ => false)
  | _ => false
/-- this can't be -/
def r_imp (E : b_E) : Bool := match E.2.2.2.2 with
  | [] => false
  | _ => (match b_fm E 94 (b_c 3) with
    | some t => r_any E 33 (fun w => match w with | [_, c] => r_ge E c t 0 | _ => false)
      || r_any E 40 (fun w => match w with | [_, c] => r_ge E c t 0 | _ => false)
      || (r_has E 0 && r_ge E (b_c 20) t 0 && r_any E 30 (fun w => match w with
        | [h, c, n] => (r_ge E n (b_c 7) 0 && r_ge E t c 0) || (r_ge E n (b_c 6) 0 && r_ge E t c 1 && (match b_fm E 94 (r_pl c 7) with | some e => b_eqv E e h | none => false))
        | _ => false))
    | none => false)
    || (match b_fm E 94 (b_c 2) with
    | some t => r_has E 0 && (r_any E 35 (fun w => match w with | [h] => r_ge E h t 0 | _ => false) || r_any E 38 (fun w => match w with | [h] => r_ge E h t 0 | _ => false))
    | none => false)
section RULK
variable {v : List Int} {E : b_E} {m : q_M}
theorem r_hJ_ok (hE : bg_E (r_F K g) v E m) {id : Nat} (h : r_hJ E id = true) : r_F K g id [] m := by
  unfold r_hJ at h
  split at h
  · cases h
  rename_i q hq
  obtain ⟨u, hu, h1⟩ := List.any_eq_true.mp h
  split at h1
  rotate_left
  · cases h1
  rename_i d s t hT hu2
  simp only [Bool.and_eq_true, decide_eq_true_eq] at h1
  obtain ⟨⟨rfl, h2⟩, h3⟩ := h1
  obtain ⟨i, hi, h4⟩ := List.any_eq_true.mp h3
  simp only [Bool.and_eq_true, decide_eq_true_eq] at h4
  have hS := r_has_ok hE h4.2
  obtain ⟨z, z1, z2⟩ := r_tok1 hE hu hu2
  have h277 := r_ge_ok hE h2 z1 (b_is_c 277)
  have hjT := r_cT_j hT
  unfold r_F at z2 hS ⊢
  simp only [hjT, hT] at z2
  simp only [h4.1] at hS
  simp only [hq]
  unfold r_J at hS ⊢
  have hc : ∀ k, k < 277 → q_i m d.1 (d.2 + k) = q_i m s.1 (s.2 + k) := fun k hk => by unfold q_i; rw [z2 k (by omega) hk]
  rw [hc 3 (by omega), hc 2 (by omega)]
  refine r_blk_congr (fun k hk => ?_) hS
  unfold r_home
  rw [Nat.add_assoc, Nat.add_assoc]
  exact (hc (7 + 6 * k) (by omega)).symm
theorem r_F34 (hE : bg_E (r_F K g) v E m) {t : b_T} {z : Int} (h1 : r_chd E t = true) (h2 : r_yes E t = true) (ht : b_is v t z) : ∃ k : Nat, z = k ∧ k < 20 ∧ (k : Int) < q_i m 94 3 ∧ r_sch m k := by
  obtain ⟨k, rfl, k1, k2⟩ := r_chd_ok hE h1 ht
  exact ⟨k, rfl, k1, k2, r_yes_ok hE h2 ht⟩
theorem r_hav_ok (hE : bg_E (r_F K g) v E m) {id : Nat} {us : List b_T} {zs : List Int} (hz : g_2 (b_is v) us zs) (h : r_hav E id us = true) : r_F K g id zs m := by
  unfold r_hav at h
  split at h
  · have := g_na hz
    subst this
    split at h
    · obtain ⟨o, ho, h1⟩ := List.any_eq_true.mp h
      simp only [Bool.and_eq_true] at h1
      obtain ⟨z, hz1⟩ := b_iv_ex hE.2.1 h1.2.1.1
      obtain ⟨k, -, k1, k2, k3⟩ := r_F34 hE h1.2.1.2 h1.2.2 hz1
      exact ⟨k, k1, k2, k3⟩
    · exact r_hJ_ok hE h
  · rename_i a
    obtain ⟨y, ys, rfl, hy, h0⟩ := g_ca hz
    have := g_na h0
    subst this
    split at h
    · rename_i q hq
      have := r_ge_ok hE h (b_is_c 0) hy
      have hj := r_cT_j hq
      unfold r_F
      simp only [hj, hq]
      intro k hk
      omega
    · split at h
      · obtain ⟨k, rfl, k1, k2⟩ := r_chd_ok hE h hy
        exact (⟨by omega, by omega, k2⟩ : 0 ≤ (k : Int) ∧ (k : Int) < 20 ∧ (k : Int) < q_i m 94 3)
      · obtain ⟨o, ho, h1⟩ := List.any_eq_true.mp h
        simp only [Bool.and_eq_true, decide_eq_true_eq] at h1
        obtain ⟨⟨⟨h2, h3⟩, h4⟩, ⟨⟨h5, h6⟩, h7⟩, h8⟩ := h1
        obtain ⟨z, hz1⟩ := b_iv_ex hE.2.1 h6
        obtain ⟨k, rfl, k1, k2, k3⟩ := r_F34 hE h7 h8 hz1
        obtain ⟨j, j1, j2⟩ := hE.2.2.2.1 o ho
        rw [← h5] at j1
        have ej : j = 7 + 6 * k := by
          have := b_is_uniq j1 (r_pl_ok (d := 7) hz1)
          omega
        obtain ⟨oc, ot, olg, oe⟩ := o
        simp only at h2 h3 h4 j2
        subst h3
        have h2 := Nat.eq_of_beq_eq_true h2
        subst h2
        obtain ⟨w, w1, w2⟩ := j2
        refine ⟨k, k1, k2, k3, ?_⟩
        unfold r_home q_i
        rw [show 0 + 7 + 6 * k = j by omega, w1]
        exact b_eqv_ok hE h4 w2 hy
      · simp only [Bool.and_eq_true] at h
        have c1 := r_ge_ok hE h.1.1 (b_is_c 0) hy
        obtain ⟨k, k1, k2, k3⟩ : ∃ k : Nat, k < 20 ∧ (k : Int) < q_i m 94 3 ∧ r_sch m k := r_has_ok hE h.1.2
        have hJ : r_blk (q_i m 94 3) (q_i m 94 2) (r_home m 94 0) := r_has_ok hE h.2
        exact ⟨k, k1, k2, k3, by have := (hJ.1 k k1 k2).1; omega⟩
      · simp only [Bool.and_eq_true] at h
        have c1 := r_ge_ok hE h.1.1 (b_is_c 0) hy
        have hJ : r_blk (q_i m 94 3) (q_i m 94 2) (r_home m 94 0) := r_has_ok hE h.1.2
        obtain ⟨k, e0, k1, k2⟩ := r_chd_ok hE h.2 (b_is_c 0)
        exact ⟨k, k1, k2, by have := (hJ.1 k k1 k2).1; omega⟩
      · cases h
  · rename_i a b
    obtain ⟨y, ys, rfl, hy, h0⟩ := g_ca hz
    obtain ⟨z, zs, rfl, hz1, h1⟩ := g_ca h0
    have := g_na h1
    subst this
    split at h
    · rw [Bool.or_eq_true] at h
      rcases h with h | h
      · rw [Bool.and_eq_true] at h
        obtain ⟨u, hu, h2, h3⟩ := r_any_ok h.2
        obtain ⟨w, w1, w2⟩ := r_tok1 hE hu (of_decide_eq_true h3)
        rw [h2] at w2
        have ew := b_is_uniq w1 hy
        subst ew
        obtain ⟨k, k1, k2, k3, k4⟩ : ∃ k : Nat, k < 20 ∧ (k : Int) < q_i m 94 3 ∧ r_sch m k ∧ r_home m 94 0 k = w := w2
        have c1 := r_ge_ok hE h.1 (b_is_c 0) hz1
        exact ⟨k, k1, k2, k3, k4, by omega⟩
      · obtain ⟨u, hu, h2, h3⟩ := r_any_ok h
        split at h3
        rotate_left
        · cases h3
        rename_i h0 c0 hu2
        simp only [Bool.and_eq_true, decide_eq_true_eq] at h3
        obtain ⟨⟨rfl, rfl⟩, h4⟩ := h3
        obtain ⟨w, c, w1, w2, w3⟩ := r_tok2 hE hu hu2
        rw [h2] at w3
        have ew := b_is_uniq w1 hy
        subst ew
        have ec := b_is_uniq hz1 (r_sft_ok w2)
        subst ec
        obtain ⟨k, k1, k2, k3, k4, k5⟩ : ∃ k : Nat, k < 20 ∧ (k : Int) < q_i m 94 3 ∧ r_sch m k ∧ r_home m 94 0 k = w ∧ c ≤ k := w3
        refine ⟨k, k1, k2, k3, k4, ?_⟩
        by_cases hk : c = k
        · subst hk
          exact absurd ⟨k3, k4⟩ (r_no_ok hE h4 w2 hy)
        · omega
    · rw [Bool.or_eq_true] at h
      rcases h with h | h
      · rw [Bool.and_eq_true] at h
        obtain ⟨u, hu, h2, h3⟩ := r_any_ok h.2
        obtain ⟨w, w1, w2⟩ := r_tok1 hE hu (of_decide_eq_true h3)
        rw [h2] at w2
        have ew := b_is_uniq w1 hy
        subst ew
        obtain ⟨k, k1, k2, k4⟩ : ∃ k : Nat, k < 20 ∧ (k : Int) < q_i m 94 3 ∧ r_home m 94 0 k = w := w2
        have c1 := r_ge_ok hE h.1 (b_is_c 0) hz1
        exact ⟨k, k1, k2, k4, by omega⟩
      · obtain ⟨u, hu, h2, h3⟩ := r_any_ok h
        split at h3
        rotate_left
        · cases h3
        rename_i h0 c0 hu2
        simp only [Bool.and_eq_true, decide_eq_true_eq] at h3
        obtain ⟨⟨rfl, rfl⟩, h4⟩ := h3
        obtain ⟨w, c, w1, w2, w3⟩ := r_tok2 hE hu hu2
        rw [h2] at w3
        have ew := b_is_uniq w1 hy
        subst ew
        have ec := b_is_uniq hz1 (r_sft_ok w2)
        subst ec
        obtain ⟨k, k1, k2, k4, k5⟩ : ∃ k : Nat, k < 20 ∧ (k : Int) < q_i m 94 3 ∧ r_home m 94 0 k = w ∧ c ≤ k := w3
        refine ⟨k, k1, k2, k4, ?_⟩
        by_cases hk : c = k
        · subst hk
          refine absurd ?_ (r_nz_ok hE h4 (r_pl_ok (d := 7) w2) hy)
          rw [← k4]
          unfold r_home
          rw [Nat.zero_add]
        · omega
    · cases h
  · rename_i hh c n
    obtain ⟨y, ys, rfl, hy, h0⟩ := g_ca hz
    obtain ⟨z, zs, rfl, hz1, h1⟩ := g_ca h0
    obtain ⟨w, ws, rfl, hw, h2⟩ := g_ca h1
    have := g_na h2
    subst this
    split at h
    rotate_left
    · cases h
    rw [Bool.or_eq_true] at h
    rcases h with h | h
    · simp only [Bool.and_eq_true, decide_eq_true_eq] at h
      obtain ⟨rfl, h3⟩ := h
      have e0 := b_is_uniq hz1 (b_is_c 0)
      have c1 := r_ge_ok hE h3 (b_is_c 0) hw
      exact ⟨0, by omega, by omega, by show w ≤ ((0 : Nat) : Int); omega⟩
    · obtain ⟨u, hu, h2, h3⟩ := r_any_ok h
      split at h3
      rotate_left
      · cases h3
      rename_i h0 c0 n0 hu2
      simp only [Bool.and_eq_true, decide_eq_true_eq] at h3
      obtain ⟨⟨⟨rfl, rfl⟩, h4⟩, h5⟩ := h3
      obtain ⟨a, b, d, a1, a2, a3, a4⟩ := r_tok3 hE hu hu2
      rw [h2] at a4
      have ea := b_is_uniq a1 hy
      subst ea
      have ec := b_is_uniq hz1 (r_sft_ok a2)
      subst ec
      obtain ⟨k, rfl, k1, k2⟩ : ∃ k : Nat, b = k ∧ k ≤ 20 ∧ d ≤ r_cnt (r_home m 94 0) a k := a4
      have c1 := r_ge_ok hE h4 (b_is_c 19) a2
      refine ⟨k + 1, by omega, by omega, ?_⟩
      have hstep : r_cnt (r_home m 94 0) a (k + 1) = r_cnt (r_home m 94 0) a k + (if r_home m 94 0 k = a then 1 else 0) := rfl
      rw [Bool.or_eq_true] at h5
      rcases h5 with h5 | h5
      · have c2 := r_ge_ok hE h5 a3 hw
        rw [hstep]
        omega
      · split at h5
        rotate_left
        · cases h5
        rename_i e he
        rw [Bool.and_eq_true] at h5
        have c2 := r_ge_ok hE h5.2 a3 hw
        have c3 := b_eqv_ok hE h5.1 (b_fm_ok hE he (r_pl_ok (d := 7) a2)).2 hy
        have c4 : r_home m 94 0 k = a := by
          unfold r_home
          rw [Nat.zero_add]
          exact c3
        rw [hstep, if_pos c4]
        omega
  · cases h
theorem r_imp_ok (hE : bg_E (r_F K g) v E m) : ¬ r_imp E = true := by
  intro h
  unfold r_imp at h
  split at h
  · cases h
  rw [Bool.or_eq_true] at h
  rcases h with h | h
  · split at h
    rotate_left
    · cases h
    rename_i t ht
    have hN := r_cst hE (d := 3) ht
    rw [Bool.or_eq_true, Bool.or_eq_true] at h
    rcases h with (h | h) | h
    · obtain ⟨u, hu, h2, h3⟩ := r_any_ok h
      split at h3
      rotate_left
      · cases h3
      rename_i a c hu2
      obtain ⟨w, z, w1, w2, w3⟩ := r_tok2 hE hu hu2
      rw [h2] at w3
      obtain ⟨k, k1, k2, -, -, k5⟩ : ∃ k : Nat, k < 20 ∧ (k : Int) < q_i m 94 3 ∧ r_sch m k ∧ r_home m 94 0 k = w ∧ z ≤ k := w3
      have := r_ge_ok hE h3 w2 hN
      omega
    · obtain ⟨u, hu, h2, h3⟩ := r_any_ok h
      split at h3
      rotate_left
      · cases h3
      rename_i a c hu2
      obtain ⟨w, z, w1, w2, w3⟩ := r_tok2 hE hu hu2
      rw [h2] at w3
      obtain ⟨k, k1, k2, -, k5⟩ : ∃ k : Nat, k < 20 ∧ (k : Int) < q_i m 94 3 ∧ r_home m 94 0 k = w ∧ z ≤ k := w3
      have := r_ge_ok hE h3 w2 hN
      omega
    · simp only [Bool.and_eq_true] at h
      have hJ : r_blk (q_i m 94 3) (q_i m 94 2) (r_home m 94 0) := r_has_ok hE h.1.1
      have h20 := r_ge_ok hE h.1.2 (b_is_c 20) hN
      obtain ⟨u, hu, h2, h3⟩ := r_any_ok h.2
      split at h3
      rotate_left
      · cases h3
      rename_i a c n hu2
      obtain ⟨x, y, z, x1, y1, z1, hF⟩ := r_tok3 hE hu hu2
      rw [h2] at hF
      obtain ⟨k, rfl, k1, k2⟩ : ∃ k : Nat, y = k ∧ k ≤ 20 ∧ z ≤ r_cnt (r_home m 94 0) x k := hF
      have hmax := hJ.2 x (by omega)
      rw [Bool.or_eq_true] at h3
      rcases h3 with h3 | h3
      · rw [Bool.and_eq_true] at h3
        have c1 := r_ge_ok hE h3.1 z1 (b_is_c 7)
        have c2 := r_ge_ok hE h3.2 hN y1
        have := r_cnt_mono (f := r_home m 94 0) (h := x) (n := (q_i m 94 3).toNat) (k := k) (by omega)
        omega
      · simp only [Bool.and_eq_true] at h3
        have c1 := r_ge_ok hE h3.1.1 z1 (b_is_c 6)
        have c2 := r_ge_ok hE h3.1.2 hN y1
        have h4 := h3.2
        split at h4
        rotate_left
        · cases h4
        rename_i e he
        have c3 := b_eqv_ok hE h4 (b_fm_ok hE he (r_pl_ok (d := 7) y1)).2 x1
        have c4 : r_home m 94 0 k = x := by
          unfold r_home
          rw [Nat.zero_add]
          exact c3
        have c5 := r_cnt_mono (f := r_home m 94 0) (h := x) (n := (q_i m 94 3).toNat) (k := k + 1) (by omega)
        have hstep : r_cnt (r_home m 94 0) x (k + 1) = r_cnt (r_home m 94 0) x k + (if r_home m 94 0 k = x then 1 else 0) := rfl
        rw [if_pos c4] at hstep
        omega
  · split at h
    rotate_left
    · cases h
    rename_i t ht
    have hH := r_cst hE (d := 2) ht
    rw [Bool.and_eq_true] at h
    have hJ : r_blk (q_i m 94 3) (q_i m 94 2) (r_home m 94 0) := r_has_ok hE h.1
    have h1 := h.2
    rw [Bool.or_eq_true] at h1
    rcases h1 with h1 | h1
    · obtain ⟨u, hu, h2, h3⟩ := r_any_ok h1
      split at h3
      rotate_left
      · cases h3
      rename_i a hu2
      obtain ⟨w, w1, w3⟩ := r_tok1 hE hu hu2
      rw [h2] at w3
      obtain ⟨k, k1, k2, -, k5⟩ : ∃ k : Nat, k < 20 ∧ (k : Int) < q_i m 94 3 ∧ r_sch m k ∧ w ≤ r_home m 94 0 k := w3
      have := r_ge_ok hE h3 w1 hH
      have := (hJ.1 k k1 k2).2
      omega
    · obtain ⟨u, hu, h2, h3⟩ := r_any_ok h1
      split at h3
      rotate_left
      · cases h3
      rename_i a hu2
      obtain ⟨w, w1, w3⟩ := r_tok1 hE hu hu2
      rw [h2] at w3
      obtain ⟨k, k1, k2, k5⟩ : ∃ k : Nat, k < 20 ∧ (k : Int) < q_i m 94 3 ∧ w ≤ r_home m 94 0 k := w3
      have := r_ge_ok hE h3 w1 hH
      have := (hJ.1 k k1 k2).2
      omega
end RULK
end GH
end
section
section GH
variable {g : Int} {K : r_K}
/-- one or the other, before scholarsOf (245) and manyOf (243) -/
def r_cas (k : Nat) (E : b_E) (as : List b_V) : List (List b_Q) := match E.2.2.2.2 with
  | [] => []
  | _ => match (as[1]? : Option b_V) with
    | some (.inl (false, h)) => (match Nat.beq k 245, Nat.beq k 243 with
      | true, _ => if r_any E 35 (fun w => decide (w = [h])) = true then [[(32, [h])], [(35, [r_sft h 1])]] else []
      | false, true => if r_any E 38 (fun w => decide (w = [h])) = true then [[(39, [h])], [(38, [r_sft h 1])]] else []
      | _, _ => [])
    | _ => []
def r_sto (E : b_E) (c : Nat) (x : b_T) (e : b_N) : List b_Q := match E.2.2.2.2 with
  | [] => []
  | _ => r_stC E c x e ++ (r_stJ E c x ++ r_stT E c x e)
theorem r_cas_ok {v : List Int} {k : Nat} {E : b_E} {as : List b_V} {m : q_M} (hE : bg_E (r_F K g) v E m) (hne : r_cas k E as ≠ []) : ∃ ts ∈ r_cas k E as, ∀ t ∈ ts, bg_Q (r_F K g) v m t := by
  unfold r_cas at hne ⊢
  split at hne
  · exact absurd rfl hne
  split at hne
  rotate_left
  · exact absurd rfl hne
  rename_i hk0 _ hh has
  split at hne
  · split at hne
    rotate_left
    · exact absurd rfl hne
    rename_i hc
    rw [if_pos hc]
    obtain ⟨u, hu, h2, h3⟩ := r_any_ok hc
    obtain ⟨w, w1, w2⟩ := r_tok1 hE hu (of_decide_eq_true h3)
    rw [h2] at w2
    obtain ⟨k, k1, k2, k3, k4⟩ : ∃ k : Nat, k < 20 ∧ (k : Int) < q_i m 94 3 ∧ r_sch m k ∧ w ≤ r_home m 94 0 k := w2
    by_cases hk : r_home m 94 0 k = w
    · refine ⟨_, List.mem_cons_self, fun t ht => ?_⟩
      have := List.mem_singleton.mp ht
      subst this
      exact ⟨[w], ⟨w1, trivial⟩, k, k1, k2, k3, hk⟩
    · refine ⟨_, List.mem_cons_of_mem _ (List.mem_singleton.mpr rfl), fun t ht => ?_⟩
      have := List.mem_singleton.mp ht
      subst this
      exact ⟨[w + 1], ⟨r_sft_ok w1, trivial⟩, k, k1, k2, k3, by omega⟩
  · split at hne
    rotate_left
    · exact absurd rfl hne
    rename_i hc
    rw [if_pos hc]
    obtain ⟨u, hu, h2, h3⟩ := r_any_ok hc
    obtain ⟨w, w1, w2⟩ := r_tok1 hE hu (of_decide_eq_true h3)
    rw [h2] at w2
    obtain ⟨k, k1, k2, k4⟩ : ∃ k : Nat, k < 20 ∧ (k : Int) < q_i m 94 3 ∧ w ≤ r_home m 94 0 k := w2
    by_cases hk : r_home m 94 0 k = w
    · refine ⟨_, List.mem_cons_self, fun t ht => ?_⟩
      have := List.mem_singleton.mp ht
      subst this
      exact ⟨[w], ⟨w1, trivial⟩, k, k1, k2, hk⟩
    · refine ⟨_, List.mem_cons_of_mem _ (List.mem_singleton.mpr rfl), fun t ht => ?_⟩
      have := List.mem_singleton.mp ht
      subst this
      exact ⟨[w + 1], ⟨r_sft_ok w1, trivial⟩, k, k1, k2, by omega⟩
  · exact absurd rfl hne
end GH
end
section
/-! RULES OF ROWS AND BITS -/
section GH
variable {g : Int} {K : r_K}
def b_fml (E : b_E) (c : Nat) (t : b_T) : Option b_T := match b_mo E.2.2.2.1 c t with
  | some (true, e) => some e
  | _ => none
def r_pl3 (t : b_T) (d : Int) : b_T := b_ad (b_c d) 3 t
def r_un3 (p : b_T) (d : Int) : b_T := (b_dv 3 p.1, (p.2 - d) / 3)
def r_btw (E : b_E) (o : Option b_T) (hi : Int) : Bool := match o with
  | some e => r_ge E e (b_c 0) 0 && r_ge E (b_c hi) e 0
  | none => false
def r_hav2 (E : b_E) (id : Nat) (us : List b_T) : Bool := match r_kd id, us with
  | some (0, r), [n] => r_ge E (b_c 0) n 0 || r_any E id (fun w => match w with | [t] => r_ge E t n 0 || (decide (n = r_sft t 1) && r_btw E (b_fml E (86 + 2 * r) (r_pl3 t 1)) 5) | _ => false)
  | some (1, s), [] => (match b_fm E 114 (b_c (s : Int)) with
    | some n => r_any E (74 + s) (fun w => match w with | [t] => r_ge E t n 0 | _ => false)
    | none => false)
  | some (2, s), [n] => r_ge E (b_c 0) n 0 || r_any E id (fun w => match w with
    | [t] => decide (n = r_sft t 3) && (match r_un3 t 0 with | k => decide (r_pl3 k 0 = t) && (b_iv E.2.1 k).isSome) && r_btw E (b_fml E 116 (r_sft t (60 * s : Nat))) 19 && r_btw E (b_fml E 116 (r_sft t (60 * s + 1 : Nat))) 5
    | _ => false)
  | some (3, 2), [x, k] => r_ge E x (b_c 0) 0 && (decide (k = b_c 0) || r_any E 902 (fun w => match w with
    | [x0, k0] => decide (x0 = x ∧ k = r_sft k0 1) && r_ge E (b_c 30) k0 0 && r_any E 900 (fun y => match y with
      | [s, x1, k1] => decide (x1 = x ∧ k1 = k0) && r_any E 901 (fun z => match z with | [r, s1] => decide (s1 = s) && b_eqv E r (b_c 0) | _ => false)
      | _ => false)
    | _ => false))
  | some (3, 4), [x] => r_any E 905 (fun w => match w with | [a] => r_ge E a x 1 | _ => false)
  | some (3, 5), [a] => r_any E 906 (fun w => match w with
    | [z, y] => decide (z = a) && (match b_fm E 93 (b_c 19) with | some t => b_eqv E t y && r_ge E t (b_c 0) 0 && r_ge E (b_c 10) t 0 | none => false)
    | _ => false)
  | _, _ => false
def r_imp2 (E : b_E) : Bool := r_any E 902 (fun w => match w with
  | [x, k] => r_ge E x (b_c 1) 0 && ((match b_iv E.2.1 x, b_iv E.2.1 k with | some p, some q => decide (0 ≤ q.1 ∧ q.1 ≤ 31 ∧ p.2 < 2 ^ q.1.toNat) | _, _ => false)
    || (match b_fm E 93 (b_c 19) with | some t => r_ge E k t 0 && r_any E 904 (fun y => decide (y = [x])) | none => false))
  | _ => false)
def r_pur (i : Instr) (sa sa1 : List b_V) : List b_Q := match i, sa, sa1 with
  | .ishr, .inl (false, y) :: .inl (false, x) :: _, .inl (false, z) :: _ => [(900, [z, x, y])]
  | .iand, .inl (false, y) :: .inl (false, s) :: _, .inl (false, r) :: _ => if y = b_c 1 then [(901, [r, s])] else if y = b_c 255 then [(127, [r, s])] else [(156, [r, s, y])]
  | .ishl, .inl (false, y) :: .inl (false, x) :: _, .inl (false, z) :: _ => if x = b_c 1 then [(906, [z, y])] else []
  | _, _, _ => []
def r_rdb (E : b_E) (a : Nat) (x : b_T) : Option (Int × Int) := match Nat.beq a 116 with
  | false => (match [0, 1, 2, 3].find? (fun r => Nat.beq a (86 + 2 * r)) with
    | some r => (match r_un3 x 1 with
      | t => if r_pl3 t 1 = x ∧ (b_iv E.2.1 t).isSome = true ∧ r_ge E t (b_c 0) 0 = true ∧ r_ge E (b_c 19) t 0 = true ∧ r_any E (60 + r) (fun w => match w with | [n] => r_ge E n t 1 | _ => false) = true then some (0, 5) else none)
    | none => none)
  | true => (match [0, 1, 2, 3].find? (fun s => r_has E (70 + s)) with
    | some s => (match b_fm E 114 (b_c (s : Int)) with
      | some n => (match r_un3 x (60 * s : Nat) with
        | t => if r_pl3 t (60 * s : Nat) = x ∧ (b_iv E.2.1 t).isSome = true ∧ r_ge E t (b_c 0) 0 = true ∧ r_ge E (b_c 19) t 0 = true ∧ r_ge E n (b_sc 3 t) 1 = true then some (0, 19)
          else (match r_un3 x (60 * s + 1 : Nat) with
            | t => if r_pl3 t (60 * s + 1 : Nat) = x ∧ (b_iv E.2.1 t).isSome = true ∧ r_ge E t (b_c 0) 0 = true ∧ r_ge E (b_c 19) t 0 = true ∧ r_ge E n (b_sc 3 t) 1 = true then some (0, 5) else none))
      | none => none)
    | none => none)
theorem r_kd_F {id : Nat} {zs : List Int} {m : q_M} (h : r_kd id ≠ none) : r_F K g id zs m = r_F2 K g id zs m := by
  unfold r_kd at h
  split at h <;> first | rfl | (exact absurd rfl h)
theorem r_kd_id {id : Nat} {q : Nat × Nat} (h : r_kd id = some q) : (q.1 = 0 → id = 60 + q.2 ∧ q.2 < 4) ∧ (q.1 = 1 → id = 70 + q.2 ∧ q.2 < 4) ∧ (q.1 = 2 → id = 74 + q.2 ∧ q.2 < 4) ∧ (q.1 = 3 → id = 900 + q.2) := by
  unfold r_kd at h
  split at h <;> first | (cases h; simp; done) | (cases h; done)
theorem r_pl3_ok {v : List Int} {t : b_T} {k : Nat} {d : Nat} (h : b_is v t (k : Int)) : b_is v (r_pl3 t d) ((d + 3 * k : Nat) : Int) := by
  have := b_is_ad (k := 3) (b_is_c (d : Int)) h
  rw [show ((d : Int) + 3 * (k : Int)) = ((d + 3 * k : Nat) : Int) by omega] at this
  exact this
theorem r_shr {a b : Int32} {n : Nat} (ha : 0 ≤ a.toInt) (hb : b.toInt = n) (hn : n ≤ 30) : (a >>> (b &&& 31)).toInt = a.toInt / 2 ^ n := by
  rw [pk_shr a (b &&& 31) _ rfl]
  have h2 := b_nn32 (x := b) (by omega)
  have e1 : (b &&& 31) = b := by
    rw [← Int32.toBitVec_inj]
    apply BitVec.eq_of_toNat_eq
    have : (b &&& 31).toBitVec.toNat = b.toBitVec.toNat &&& 31 := by simp
    rw [this]
    exact Nat.and_two_pow_sub_one_of_lt_two_pow (n := 5) (by omega)
  have e33 : (b &&& 31).toBitVec.smod 32 = b.toBitVec := by
    rw [e1]
    apply BitVec.eq_of_toInt_eq
    rw [BitVec.toInt_smod]
    have : b.toBitVec.toInt = b.toInt := rfl
    rw [this]
    have h32 : (32#32).toInt = 32 := by decide
    show b.toInt.fmod (32#32).toInt = _
    rw [h32, Int.fmod_eq_emod_of_nonneg _ (by omega)]
    omega
  rw [e33, Int.shiftRight_eq_div_pow]
  have : b.toBitVec.toNat = n := by omega
  rw [this]
  simp
theorem r_and1 {a : Int32} (ha : 0 ≤ a.toInt) : (a &&& 1).toInt = a.toInt % 2 := by
  have h1 := b_nn32 ha
  have h3 : (a &&& 1).toBitVec.toNat = a.toBitVec.toNat &&& 1 := by simp
  have h5 : (a &&& 1).toInt = ((a &&& 1).toBitVec.toNat : Int) := (b_nn32 (g_and_l ha).1).1
  rw [h5, h3, Nat.and_one_is_mod, h1.1]
  omega
section RUL2
variable {v : List Int} {E : b_E} {m : q_M} {I : List b_I}
theorem b_fml_ok (hE : bg_E (r_F K g) v E m) {c : Nat} {t e : b_T} {j : Nat} (h : b_fml E c t = some e) (hj : b_is v t (j : Int)) : b_is v e (q_l m c j) := by
  unfold b_fml at h
  split at h
  rotate_left
  · cases h
  rename_i e1 he
  cases h
  obtain ⟨k, k1, k2⟩ := hE.2.2.2.1 _ (b_mo_ok he)
  have : (k : Int) = j := b_is_uniq k1 hj
  have : k = j := by omega
  subst this
  obtain ⟨z, z1, z2⟩ := k2
  simp only at z1 z2
  unfold q_l
  rw [z1]
  exact z2
theorem r_btw_ok (hE : bg_E (r_F K g) v E m) {c : Nat} {t : b_T} {j : Nat} {hi : Int} (h : r_btw E (b_fml E c t) hi = true) (hj : b_is v t (j : Int)) : 0 ≤ q_l m c j ∧ q_l m c j ≤ hi := by
  unfold r_btw at h
  split at h
  · rename_i e he
    have k1 := b_fml_ok hE he hj
    rw [Bool.and_eq_true] at h
    have c1 := r_ge_ok hE h.1 k1 (b_is_c 0)
    have c2 := r_ge_ok hE h.2 (b_is_c hi) k1
    omega
  · cases h
theorem r_hav2_ok (hE : bg_E (r_F K g) v E m) {id : Nat} {us : List b_T} {zs : List Int} (hz : g_2 (b_is v) us zs) (h : r_hav2 E id us = true) : r_F K g id zs m := by
  unfold r_hav2 at h
  split at h
  · rename_i r n hk
    rw [r_kd_F (by rw [hk]; simp)]
    obtain ⟨y, ys, rfl, hy, h0⟩ := g_ca hz
    have := g_na h0
    subst this
    unfold r_F2
    simp only [hk]
    rw [Bool.or_eq_true] at h
    rcases h with h | h
    · have := r_ge_ok hE h (b_is_c 0) hy
      intro i hi
      omega
    · obtain ⟨u, hu, h2, h3⟩ := r_any_ok h
      split at h3
      rotate_left
      · cases h3
      rename_i t hu2
      obtain ⟨w, w1, w2⟩ := r_tok1 hE hu hu2
      rw [h2, r_kd_F (by rw [hk]; simp)] at w2
      unfold r_F2 at w2
      simp only [hk] at w2
      rw [Bool.or_eq_true] at h3
      rcases h3 with h3 | h3
      · have := r_ge_ok hE h3 w1 hy
        intro i hi
        exact w2 i (by omega)
      · rw [Bool.and_eq_true, decide_eq_true_eq] at h3
        obtain ⟨rfl, h4⟩ := h3
        have ey := b_is_uniq hy (r_sft_ok w1)
        intro i hi hi2
        by_cases hiw : (i : Int) < w
        · exact w2 i hiw hi2
        · have : w = i := by omega
          subst this
          have := r_btw_ok hE h4 (r_pl3_ok (d := 1) w1)
          rw [show 3 * i + 1 = 1 + 3 * i by omega]
          exact this
  · rename_i s hk
    rw [r_kd_F (by rw [hk]; simp)]
    have := g_na hz
    subst this
    unfold r_F2
    simp only [hk]
    split at h
    rotate_left
    · cases h
    rename_i n hn
    have hN := r_cst hE (d := s) hn
    obtain ⟨u, hu, h2, h3⟩ := r_any_ok h
    split at h3
    rotate_left
    · cases h3
    rename_i t hu2
    obtain ⟨w, w1, w2⟩ := r_tok1 hE hu hu2
    have hs4 := ((r_kd_id hk).2.1 rfl).2
    simp only at hs4
    have hk2 : r_kd (74 + s) = some (2, s) := by
      match s, hs4 with
      | 0, _ => rfl
      | 1, _ => rfl
      | 2, _ => rfl
      | 3, _ => rfl
    rw [h2, r_kd_F (by rw [hk2]; simp)] at w2
    unfold r_F2 at w2
    simp only [hk2] at w2
    have := r_ge_ok hE h3 w1 hN
    intro k hk1
    exact w2 k (by omega)
  · rename_i s n hk
    rw [r_kd_F (by rw [hk]; simp)]
    obtain ⟨y, ys, rfl, hy, h0⟩ := g_ca hz
    have := g_na h0
    subst this
    unfold r_F2
    simp only [hk]
    rw [Bool.or_eq_true] at h
    rcases h with h | h
    · have := r_ge_ok hE h (b_is_c 0) hy
      intro i hi
      omega
    · obtain ⟨u, hu, h2, h3⟩ := r_any_ok h
      split at h3
      rotate_left
      · cases h3
      rename_i t hu2
      obtain ⟨w, w1, w2⟩ := r_tok1 hE hu hu2
      rw [h2, r_kd_F (by rw [hk]; simp)] at w2
      unfold r_F2 at w2
      simp only [hk] at w2
      simp only [Bool.and_eq_true, decide_eq_true_eq] at h3
      obtain ⟨⟨⟨rfl, h5, h6⟩, h7⟩, h8⟩ := h3
      have ey := b_is_uniq hy (r_sft_ok w1)
      obtain ⟨q, q1⟩ := b_iv_ex hE.2.1 h6
      have ew : w = 3 * q := by
        rw [← h5] at w1
        have := b_is_uniq w1 (b_is_ad (k := 3) (b_is_c 0) q1)
        omega
      intro k hk1 hk2
      by_cases hkw : ((3 * k : Nat) : Int) < w
      · exact w2 k hkw hk2
      · have hw : w = ((3 * k : Nat) : Int) := by omega
        rw [hw] at w1
        have c1 := r_btw_ok hE (j := 60 * s + 3 * k) h7 (by
          have := r_sft_ok (d := ((60 * s : Nat) : Int)) w1
          rw [show (((3 * k : Nat) : Int) + ((60 * s : Nat) : Int)) = ((60 * s + 3 * k : Nat) : Int) by omega] at this
          exact this)
        have c2 := r_btw_ok hE (j := 60 * s + 3 * k + 1) h8 (by
          have := r_sft_ok (d := ((60 * s + 1 : Nat) : Int)) w1
          rw [show (((3 * k : Nat) : Int) + ((60 * s + 1 : Nat) : Int)) = ((60 * s + 3 * k + 1 : Nat) : Int) by omega] at this
          exact this)
        exact ⟨c1, c2⟩
  · rename_i x k hk
    rw [r_kd_F (by rw [hk]; simp)]
    obtain ⟨y, ys, rfl, hy, h0⟩ := g_ca hz
    obtain ⟨z, zs, rfl, hz1, h1⟩ := g_ca h0
    have := g_na h1
    subst this
    unfold r_F2
    simp only [hk]
    rw [Bool.and_eq_true] at h
    have hx0 := r_ge_ok hE h.1 hy (b_is_c 0)
    have h := h.2
    rw [Bool.or_eq_true] at h
    rcases h with h | h
    · rw [of_decide_eq_true h] at hz1
      have := b_is_uniq hz1 (b_is_c 0)
      exact ⟨0, by omega, by omega, by omega, by simp⟩
    · obtain ⟨u, hu, h2, h3⟩ := r_any_ok h
      split at h3
      rotate_left
      · cases h3
      rename_i x0 k0 hu2
      simp only [Bool.and_eq_true, decide_eq_true_eq] at h3
      obtain ⟨⟨⟨rfl, rfl⟩, h4⟩, h5⟩ := h3
      obtain ⟨a, b, a1, b1, ab⟩ := r_tok2 hE hu hu2
      rw [h2, r_kd_F (by decide)] at ab
      obtain ⟨n, rfl, n1, n2, n3⟩ : ∃ n : Nat, b = n ∧ n ≤ 31 ∧ 0 ≤ a ∧ a % 2 ^ n = 0 := ab
      have ea := b_is_uniq a1 hy
      subst ea
      have ez := b_is_uniq hz1 (r_sft_ok b1)
      have c30 := r_ge_ok hE h4 (b_is_c 30) b1
      obtain ⟨u2, hu2', h6, h7⟩ := r_any_ok h5
      split at h7
      rotate_left
      · cases h7
      rename_i s x1 k1 hu3
      simp only [Bool.and_eq_true, decide_eq_true_eq] at h7
      obtain ⟨⟨rfl, rfl⟩, h8⟩ := h7
      obtain ⟨sv, xv, kv, s1, x1', k1', sF⟩ := r_tok3 hE hu2' hu3
      rw [h6, r_kd_F (by decide)] at sF
      obtain ⟨p, q, p1, q1, pq⟩ : ∃ a b : Int32, a.toInt = xv ∧ b.toInt = kv ∧ (a >>> (b &&& 31)).toInt = sv := sF
      have exv := b_is_uniq x1' hy
      have ekv := b_is_uniq k1' b1
      obtain ⟨u4, hu4, h9, h10⟩ := r_any_ok h8
      split at h10
      rotate_left
      · cases h10
      rename_i r s1' hu5
      simp only [Bool.and_eq_true, decide_eq_true_eq] at h10
      obtain ⟨rfl, h11⟩ := h10
      obtain ⟨rv, sv2, r1, s2, rF⟩ := r_tok2 hE hu4 hu5
      rw [h9, r_kd_F (by decide)] at rF
      obtain ⟨g, g1, g2⟩ : ∃ a : Int32, a.toInt = sv2 ∧ (a &&& 1).toInt = rv := rF
      have esv := b_is_uniq s2 s1
      have er := b_eqv_ok hE h11 r1 (b_is_c 0)
      have e1 : sv = a / 2 ^ n := by
        rw [← pq, r_shr (n := n) (by omega) (by omega) (by omega), p1, exv]
      have hpos : (0 : Int) < 2 ^ n := by
        have := Nat.two_pow_pos n
        have h2 : (0 : Int) < ((2 ^ n : Nat) : Int) := by exact_mod_cast this
        rw [Int.natCast_pow] at h2
        exact h2
      have hs0 : 0 ≤ sv := by
        rw [e1]
        exact Int.ediv_nonneg (by omega) (by omega)
      have e2 : sv % 2 = 0 := by
        have := r_and1 (a := g) (by omega)
        omega
      refine ⟨n + 1, by omega, by omega, by omega, ?_⟩
      have e3 : a = 2 ^ n * sv := by
        have := Int.mul_ediv_add_emod a (2 ^ n)
        rw [n3, ← e1] at this
        omega
      have e4 : sv = 2 * (sv / 2) := by omega
      rw [e3, e4, Int.pow_succ, ← Int.mul_assoc]
      exact Int.mul_emod_right _ _
  · rename_i x hk
    rw [r_kd_F (by rw [hk]; simp)]
    obtain ⟨y, ys, rfl, hy, h0⟩ := g_ca hz
    have := g_na h0
    subst this
    unfold r_F2
    simp only [hk]
    obtain ⟨u, hu, h2, h3⟩ := r_any_ok h
    split at h3
    rotate_left
    · cases h3
    rename_i a hu2
    obtain ⟨w, w1, w2⟩ := r_tok1 hE hu hu2
    rw [h2, r_kd_F (by decide)] at w2
    obtain ⟨n, n1, n2, n3⟩ : ∃ n : Nat, q_i m 93 19 = n ∧ n ≤ 10 ∧ w = 2 ^ n := w2
    have := r_ge_ok hE h3 w1 hy
    exact ⟨n, n1, n2, by omega⟩
  · rename_i a hk
    rw [r_kd_F (by rw [hk]; simp)]
    obtain ⟨y, ys, rfl, hy, h0⟩ := g_ca hz
    have := g_na h0
    subst this
    unfold r_F2
    simp only [hk]
    obtain ⟨u, hu, h2, h3⟩ := r_any_ok h
    split at h3
    rotate_left
    · cases h3
    rename_i z y1 hu2
    rw [Bool.and_eq_true, decide_eq_true_eq] at h3
    obtain ⟨rfl, h4⟩ := h3
    split at h4
    rotate_left
    · cases h4
    rename_i t ht
    have hT := r_cst hE (d := 19) ht
    simp only [Bool.and_eq_true] at h4
    obtain ⟨w, w', w1, w2, w3⟩ := r_tok2 hE hu hu2
    rw [h2, r_kd_F (by decide)] at w3
    have w3 : ∀ n : Nat, w' = n → n ≤ 30 → w = 2 ^ n := w3
    have c1 := b_eqv_ok hE h4.1.1 hT w2
    have c2 := r_ge_ok hE h4.1.2 hT (b_is_c 0)
    have c3 := r_ge_ok hE h4.2 (b_is_c 10) hT
    have ew := b_is_uniq w1 hy
    exact ⟨(q_i m 93 19).toNat, by omega, by omega, by rw [← ew]; exact w3 _ (by omega) (by omega)⟩
  · cases h
theorem r_imp2_ok (hE : bg_E (r_F K g) v E m) : ¬ r_imp2 E = true := by
  intro h
  unfold r_imp2 at h
  obtain ⟨u, hu, h2, h3⟩ := r_any_ok h
  split at h3
  rotate_left
  · cases h3
  rename_i x k hu2
  rw [Bool.and_eq_true] at h3
  obtain ⟨a, b, a1, b1, ab⟩ := r_tok2 hE hu hu2
  rw [h2, r_kd_F (by decide)] at ab
  obtain ⟨n, rfl, n1, n2, n3⟩ : ∃ n : Nat, b = n ∧ n ≤ 31 ∧ 0 ≤ a ∧ a % 2 ^ n = 0 := ab
  have c1 := r_ge_ok hE h3.1 a1 (b_is_c 1)
  have hge : (2 : Int) ^ n ≤ a := Int.le_of_dvd (by omega) (Int.dvd_of_emod_eq_zero n3)
  have h4 := h3.2
  rw [Bool.or_eq_true] at h4
  rcases h4 with h4 | h4
  · split at h4
    rotate_left
    · cases h4
    rename_i p q hp hq
    rw [decide_eq_true_eq] at h4
    have i1 := b_iv_ok hE.2.1 hp a1
    have i2 := b_iv_ok hE.2.1 hq b1
    have := b_pow_le (a := q.1.toNat) (b := n) (by omega)
    omega
  · split at h4
    rotate_left
    · cases h4
    rename_i t ht
    have hT := r_cst hE (d := 19) ht
    rw [Bool.and_eq_true] at h4
    have c2 := r_ge_ok hE h4.1 b1 hT
    obtain ⟨w, hw, h5, h6⟩ := r_any_ok h4.2
    obtain ⟨z, z1, z2⟩ := r_tok1 hE hw (of_decide_eq_true h6)
    rw [h5, r_kd_F (by decide)] at z2
    obtain ⟨l, l1, l2, l3⟩ : ∃ n : Nat, q_i m 93 19 = n ∧ n ≤ 10 ∧ z < 2 ^ n := z2
    have ez := b_is_uniq z1 a1
    have := b_pow_le (a := l) (b := n) (by omega)
    omega
theorem r_rdb_ok (hE : bg_E (r_F K g) v E m) {a j : Nat} {x : b_T} {z : Int64} {q : Int × Int} (hx : b_is v x (j : Int)) (hz : q_at m a j = .long z) (h : r_rdb E a x = some q) : q.1 ≤ z.toInt ∧ z.toInt ≤ q.2 := by
  have hl : q_l m a j = z.toInt := by
    unfold q_l
    rw [hz]
  unfold r_rdb at h
  split at h
  · split at h
    rotate_left
    · cases h
    rename_i r hr
    have hr1 := List.find?_some hr
    have hr2 := List.mem_of_find?_eq_some hr
    have ea := Nat.eq_of_beq_eq_true hr1
    simp only at h
    split at h
    rotate_left
    · cases h
    rename_i hc
    obtain ⟨c1, c2, c3, c4, c5⟩ := hc
    cases h
    obtain ⟨w, w1⟩ := b_iv_ex hE.2.1 c2
    have d1 := r_ge_ok hE c3 w1 (b_is_c 0)
    have d2 := r_ge_ok hE c4 (b_is_c 19) w1
    obtain ⟨k, rfl⟩ : ∃ n : Nat, w = n := ⟨w.toNat, by omega⟩
    have ej : j = 3 * k + 1 := by
      rw [← c1] at hx
      have := b_is_uniq hx (r_pl3_ok (d := 1) w1)
      omega
    obtain ⟨u, hu, h2, h3⟩ := r_any_ok c5
    split at h3
    rotate_left
    · cases h3
    rename_i n hu2
    obtain ⟨y, y1, y2⟩ := r_tok1 hE hu hu2
    have hk : r_kd (60 + r) = some (0, r) := by
      simp only [List.mem_cons, List.not_mem_nil, or_false] at hr2
      rcases hr2 with rfl | rfl | rfl | rfl <;> rfl
    rw [h2, r_kd_F (by rw [hk]; simp)] at y2
    unfold r_F2 at y2
    simp only [hk] at y2
    have := r_ge_ok hE h3 y1 w1
    have := y2 k (by omega) (by omega)
    rw [← ea, ← ej, hl] at this
    exact this
  · rename_i ha
    have ha := Nat.eq_of_beq_eq_true ha
    split at h
    rotate_left
    · cases h
    rename_i s hs
    have hs1 := List.find?_some hs
    have hs2 := List.mem_of_find?_eq_some hs
    have hF := r_has_ok hE hs1
    have hk : r_kd (70 + s) = some (1, s) := by
      simp only [List.mem_cons, List.not_mem_nil, or_false] at hs2
      rcases hs2 with rfl | rfl | rfl | rfl <;> rfl
    rw [r_kd_F (by rw [hk]; simp)] at hF
    unfold r_F2 at hF
    simp only [hk] at hF
    split at h
    rotate_left
    · cases h
    rename_i n hn
    have hN := r_cst hE (d := s) hn
    simp only at h
    split at h
    · rename_i hc
      obtain ⟨c1, c2, c3, c4, c5⟩ := hc
      cases h
      obtain ⟨w, w1⟩ := b_iv_ex hE.2.1 c2
      have d1 := r_ge_ok hE c3 w1 (b_is_c 0)
      have d2 := r_ge_ok hE c4 (b_is_c 19) w1
      have d3 := r_ge_ok hE c5 hN (b_is_sc (k := 3) w1)
      obtain ⟨k, rfl⟩ : ∃ n : Nat, w = n := ⟨w.toNat, by omega⟩
      have ej : j = 60 * s + 3 * k := by
        rw [← c1] at hx
        have := b_is_uniq hx (r_pl3_ok (d := 60 * s) w1)
        omega
      have := (hF k (by omega) (by omega)).1
      rw [← ej, ← ha, hl] at this
      exact this
    · split at h
      rotate_left
      · cases h
      rename_i hc
      obtain ⟨c1, c2, c3, c4, c5⟩ := hc
      cases h
      obtain ⟨w, w1⟩ := b_iv_ex hE.2.1 c2
      have d1 := r_ge_ok hE c3 w1 (b_is_c 0)
      have d2 := r_ge_ok hE c4 (b_is_c 19) w1
      have d3 := r_ge_ok hE c5 hN (b_is_sc (k := 3) w1)
      obtain ⟨k, rfl⟩ : ∃ n : Nat, w = n := ⟨w.toNat, by omega⟩
      have ej : j = 60 * s + 3 * k + 1 := by
        rw [← c1] at hx
        have := b_is_uniq hx (r_pl3_ok (d := 60 * s + 1) w1)
        omega
      have := (hF k (by omega) (by omega)).2
      rw [← ej, ← ha, hl] at this
      exact this
end RUL2
theorem r_pur_ok {v : List Int} {nL pc len : Nat} {i : Instr} {l : q_L} {st : List Value} {pc1 : Nat} {l1 : q_L} {st1 : List Value} {sa sa1 : List b_V} {m : q_M} (hs : bg_s v sa st) (hs1 : bg_s v sa1 st1) (h : q_pure nL pc len i l st = some (pc1, l1, st1)) : ∀ t ∈ r_pur i sa sa1, bg_Q (r_F K g) v m t := by
  intro t ht
  unfold r_pur at ht
  split at ht
  · obtain ⟨y, ys, rfl, hy, hs⟩ := g_ca hs
    obtain ⟨x, xs, rfl, hx, hs⟩ := g_ca hs
    obtain ⟨z, zs, rfl, hz, hs1⟩ := g_ca hs1
    obtain ⟨b, rfl, hy⟩ := hy
    obtain ⟨a, rfl, hx⟩ := hx
    obtain ⟨c, rfl, hz⟩ := hz
    have := List.mem_singleton.mp ht
    subst this
    simp only [q_pure, Option.some.injEq, Prod.mk.injEq, List.cons.injEq, Value.int.injEq] at h
    obtain ⟨-, -, rfl, -⟩ := h
    exact ⟨[_, _, _], ⟨hz, hx, hy, trivial⟩, a, b, rfl, rfl, rfl⟩
  · split at ht
    rotate_left
    · split at ht
      rotate_left
      · obtain ⟨y, ys, rfl, hy, hs⟩ := g_ca hs
        obtain ⟨x, xs, rfl, hx, hs⟩ := g_ca hs
        obtain ⟨z, zs, rfl, hz, hs1⟩ := g_ca hs1
        obtain ⟨b, rfl, hy⟩ := hy
        obtain ⟨a, rfl, hx⟩ := hx
        obtain ⟨c, rfl, hz⟩ := hz
        have := List.mem_singleton.mp ht
        subst this
        simp only [q_pure, Option.some.injEq, Prod.mk.injEq, List.cons.injEq, Value.int.injEq] at h
        obtain ⟨-, -, rfl, -⟩ := h
        exact ⟨[_, _, _], ⟨hz, hx, hy, trivial⟩, a, b, rfl, rfl, rfl⟩
      rename_i hy1
      subst hy1
      obtain ⟨y, ys, rfl, hy, hs⟩ := g_ca hs
      obtain ⟨x, xs, rfl, hx, hs⟩ := g_ca hs
      obtain ⟨z, zs, rfl, hz, hs1⟩ := g_ca hs1
      obtain ⟨b, rfl, hy⟩ := hy
      obtain ⟨a, rfl, hx⟩ := hx
      obtain ⟨c, rfl, hz⟩ := hz
      have := List.mem_singleton.mp ht
      subst this
      simp only [q_pure, Option.some.injEq, Prod.mk.injEq, List.cons.injEq, Value.int.injEq] at h
      obtain ⟨-, -, rfl, -⟩ := h
      have hb : b = 255 := Int32.toInt_inj.mp (b_is_uniq hy (b_is_c 255))
      subst hb
      refine ⟨[_, _], ⟨hz, hx, trivial⟩, ?_⟩
      show (a &&& 255).toInt = r_lo a.toInt
      unfold r_lo
      rw [Int32.ofInt_toInt]
    rename_i hy1
    subst hy1
    obtain ⟨y, ys, rfl, hy, hs⟩ := g_ca hs
    obtain ⟨x, xs, rfl, hx, hs⟩ := g_ca hs
    obtain ⟨z, zs, rfl, hz, hs1⟩ := g_ca hs1
    obtain ⟨b, rfl, hy⟩ := hy
    obtain ⟨a, rfl, hx⟩ := hx
    obtain ⟨c, rfl, hz⟩ := hz
    have := List.mem_singleton.mp ht
    subst this
    simp only [q_pure, Option.some.injEq, Prod.mk.injEq, List.cons.injEq, Value.int.injEq] at h
    obtain ⟨-, -, rfl, -⟩ := h
    have hb : b = 1 := Int32.toInt_inj.mp (b_is_uniq hy (b_is_c 1))
    subst hb
    exact ⟨[_, _], ⟨hz, hx, trivial⟩, a, rfl, rfl⟩
  · split at ht
    rotate_left
    · cases ht
    rename_i hx1
    subst hx1
    obtain ⟨y, ys, rfl, hy, hs⟩ := g_ca hs
    obtain ⟨x, xs, rfl, hx, hs⟩ := g_ca hs
    obtain ⟨z, zs, rfl, hz, hs1⟩ := g_ca hs1
    obtain ⟨b, rfl, hy⟩ := hy
    obtain ⟨a, rfl, hx⟩ := hx
    obtain ⟨c, rfl, hz⟩ := hz
    have := List.mem_singleton.mp ht
    subst this
    simp only [q_pure, Option.some.injEq, Prod.mk.injEq, List.cons.injEq, Value.int.injEq] at h
    obtain ⟨-, -, rfl, -⟩ := h
    have ha : a = 1 := Int32.toInt_inj.mp (b_is_uniq hx (b_is_c 1))
    subst ha
    refine ⟨[_, _], ⟨hz, hy, trivial⟩, ?_⟩
    intro n hn hn2
    have h1 : (1 : Int32).toInt = 1 := rfl
    have hp : (2 : Int) ^ n ≤ 2 ^ 30 := b_pow_le hn2
    have e : b.toInt.toNat = n := by omega
    rw [b_shl32 (by omega) (by omega) (by omega) (by rw [e, h1]; omega), e, h1]
    omega
  · cases ht
end GH
end
section
/-! ONE MORE CHILD: what the rules of the reading will stand on -/
theorem r_blk_N {N H : Int} {f f1 : Nat → Int} (h : ∀ k : Nat, k < 20 → (k : Int) < N → f k = f1 k) (hb : r_blk N H f) : r_blk N H f1 := by
  refine ⟨fun k h1 h2 => ?_, fun x hN => ?_⟩
  · rw [← h k h1 h2]
    exact hb.1 k h1 h2
  · rw [← r_cnt_congr (f := f) (fun k hk => h k (by omega) (by omega))]
    exact hb.2 x hN
theorem r_blk_H {N H H1 : Int} {f : Nat → Int} (hH : H ≤ H1) (hb : r_blk N H f) : r_blk N H1 f :=
  ⟨fun k h1 h2 => by have := hb.1 k h1 h2; omega, hb.2⟩
theorem r_blk_1 {N H : Int} {n : Nat} {f : Nat → Int} (hn : N = n) (h20 : n < 20) (hb : r_blk N H f) (h1 : 0 ≤ f n) (h2 : f n < H) (hc : r_cnt f (f n) n ≤ 5) : r_blk (N + 1) H f := by
  subst hn
  refine ⟨fun k k1 k2 => ?_, fun x hN => ?_⟩
  · by_cases e : k = n
    · subst e
      exact ⟨h1, h2⟩
    · exact hb.1 k k1 (by omega)
  · have e : ((n : Int) + 1).toNat = n + 1 := by omega
    rw [e]
    unfold r_cnt
    by_cases ex : f n = x
    · subst ex
      rw [if_pos rfl]
      omega
    · rw [if_neg ex]
      have := hb.2 x (by omega)
      have e2 : ((n : Int)).toNat = n := by omega
      rw [e2] at this
      omega
end
section
/-! JOININGS: what is counted, by the kernel for all sets of ten -/
set_option maxRecDepth 100000 in
theorem j_t1 : (List.range 1024).all (fun n => decide (j_rem n 1024 n ≤ j_bell (j_bits n))) = true := by decide +kernel
set_option maxRecDepth 100000 in
theorem j_t2 : (List.range 1024).all (fun n => decide (j_bits n ≤ 10 ∧ j_fst n < 10 ∧ j_bell (j_bits n) ≤ 115975 ∧ (n = 0 ∨ (2 ^ j_fst n ≤ n ∧ n / 2 ^ j_fst n % 2 = 1 ∧ n % 2 ^ j_fst n = 0 ∧ j_bits (n - 2 ^ j_fst n) + 1 = j_bits n)))) = true := by decide +kernel
theorem j_a1 {n : Nat} (h : n < 1024) : j_rem n 1024 n ≤ j_bell (j_bits n) := of_decide_eq_true (List.all_eq_true.mp j_t1 n (List.mem_range.mpr h))
theorem j_a2 {n : Nat} (h : n < 1024) : j_bits n ≤ 10 ∧ j_fst n < 10 ∧ j_bell (j_bits n) ≤ 115975 ∧ (n = 0 ∨ (2 ^ j_fst n ≤ n ∧ n / 2 ^ j_fst n % 2 = 1 ∧ n % 2 ^ j_fst n = 0 ∧ j_bits (n - 2 ^ j_fst n) + 1 = j_bits n)) := of_decide_eq_true (List.all_eq_true.mp j_t2 n (List.mem_range.mpr h))
set_option maxRecDepth 100000 in
theorem j_t3a : (List.range 512).all (fun n => j_ck n 1024 n) = true := by decide +kernel
set_option maxRecDepth 100000 in
theorem j_t3b : (List.range 512).all (fun n => j_ck (512 + n) 1024 (512 + n)) = true := by decide +kernel
theorem j_a3 {n : Nat} (h : n < 1024) : j_ck n 1024 n = true := by
  by_cases h1 : n < 512
  · exact List.all_eq_true.mp j_t3a n (List.mem_range.mpr h1)
  · have := List.all_eq_true.mp j_t3b (n - 512) (List.mem_range.mpr (by omega))
    rw [show 512 + (n - 512) = n by omega] at this
    exact this
theorem j_ck_f (s : Nat) : ∀ (f f' o : Nat), o ≤ f → o ≤ f' → j_ck s f o = j_ck s f' o
  | 0, 0, o, _, _ => rfl
  | 0, f' + 1, o, h, _ => by
    have : o = 0 := by omega
    subst this
    simp [j_ck]
  | f + 1, 0, o, _, h => by
    have : o = 0 := by omega
    subst this
    simp [j_ck]
  | f + 1, f' + 1, o, h, h' => by
    unfold j_ck
    by_cases h0 : o = 0
    · subst h0
      rfl
    · have hx : j_nx s o ≤ o - 1 := Nat.and_le_left
      rw [j_ck_f s f f' (j_nx s o) (by omega) (by omega)]
/-- a part of a set -/
theorem j_a4 {n q : Nat} (hn : n < 1024) (hq : 1 ≤ q) (hq2 : q ≤ 1024) (h : j_ck n 1024 q = true) : 2 ^ j_fst n ≤ q ∧ q ≤ n ∧ (q = 2 ^ j_fst n ∨ 2 ^ j_fst n ≤ j_nx n q) ∧ (Int32.ofNat n &&& Int32.ofInt (-1 - q)).toInt = ((n - q : Nat) : Int) ∧ (Int32.ofInt ((q : Int) - 1) &&& Int32.ofNat n).toInt = (j_nx n q : Int) ∧ j_ck n 1024 (j_nx n q) = true := by
  have e : j_ck n 1024 q = (Nat.beq q 0 || (j_c1 n q && j_ck n 1023 (j_nx n q))) := rfl
  rw [e, Bool.or_eq_true] at h
  rcases h with h | h
  · have := Nat.eq_of_beq_eq_true h
    omega
  · rw [Bool.and_eq_true] at h
    obtain ⟨h1, h2⟩ := h
    unfold j_c1 at h1
    simp only [Bool.and_eq_true, Bool.or_eq_true, decide_eq_true_eq] at h1
    obtain ⟨a1, a2, a3, a4, a5⟩ := h1
    have hx : j_nx n q ≤ q - 1 := Nat.and_le_left
    refine ⟨Nat.le_of_ble_eq_true a1, Nat.le_of_ble_eq_true a2, ?_, a4, a5, by rw [← j_ck_f n 1023 1024 _ (by omega) (by omega)]; exact h2⟩
    rcases a3 with a3 | a3
    · exact Or.inl (Nat.eq_of_beq_eq_true a3)
    · exact Or.inr (Nat.le_of_ble_eq_true a3)
end
section
/-! JOININGS: sums of a row while sets are added -/
theorem j_rem_f (s : Nat) : ∀ (f f' o : Nat), o ≤ f → o ≤ f' → j_rem s f o = j_rem s f' o
  | 0, 0, o, _, _ => rfl
  | 0, f' + 1, o, h, _ => by
    have : o = 0 := by omega
    subst this
    simp [j_rem]
  | f + 1, 0, o, _, h => by
    have : o = 0 := by omega
    subst this
    simp [j_rem]
  | f + 1, f' + 1, o, h, h' => by
    unfold j_rem
    split
    · rfl
    · have hx : j_nx s o ≤ o - 1 := Nat.and_le_left
      rw [j_rem_f s f f' (j_nx s o) (by omega) (by omega)]
theorem j_rem_s {s o : Nat} (h1 : 1 ≤ o) (h2 : o < 1024) : j_rem s 1024 o = (if o / 2 ^ j_fst s % 2 = 1 then j_bell (j_bits (s - o)) else 0) + j_rem s 1024 (j_nx s o) := by
  have e : j_rem s 1024 o = j_rem s (1023 + 1) o := rfl
  rw [e]
  show (if o = 0 then 0 else (if o / 2 ^ j_fst s % 2 = 1 then j_bell (j_bits (s - o)) else 0) + j_rem s 1023 (j_nx s o)) = _
  rw [if_neg (by omega)]
  have hx : j_nx s o ≤ o - 1 := Nat.and_le_left
  rw [j_rem_f s 1023 1024 (j_nx s o) (by omega) (by omega)]
theorem j_nx_lt {s o : Nat} (h : 1 ≤ o) : j_nx s o < o := by
  have hx : j_nx s o ≤ o - 1 := Nat.and_le_left
  omega
theorem j_sum_congr {W V : Nat → Int} {b : Nat} : ∀ {n : Nat}, (∀ k, k < n → W (b + k) = V (b + k)) → j_sum W b n = j_sum V b n
  | 0, _ => rfl
  | n + 1, h => by
    unfold j_sum
    rw [j_sum_congr (fun k hk => h k (by omega)), h n (by omega)]
theorem j_sum_nn {W : Nat → Int} {b : Nat} : ∀ {n : Nat}, (∀ k, k < n → 0 ≤ W (b + k)) → 0 ≤ j_sum W b n
  | 0, _ => Int.le_refl _
  | n + 1, h => by
    unfold j_sum
    have := j_sum_nn (n := n) (fun k hk => h k (by omega))
    have := h n (by omega)
    omega
theorem j_sum_ge {W : Nat → Int} {b : Nat} : ∀ {n : Nat}, (∀ k, k < n → 0 ≤ W (b + k)) → ∀ k, k < n → W (b + k) ≤ j_sum W b n
  | 0, _, k, hk => by omega
  | n + 1, h, k, hk => by
    unfold j_sum
    by_cases e : k = n
    · subst e
      have := j_sum_nn (n := k) (fun i hi => h i (by omega))
      omega
    · have := j_sum_ge (n := n) (fun i hi => h i (by omega)) k (by omega)
      have := h n (by omega)
      omega
theorem j_sum_le {W : Nat → Int} {b : Nat} : ∀ {n k : Nat}, (∀ i, i < n → 0 ≤ W (b + i)) → k ≤ n → j_sum W b k ≤ j_sum W b n
  | 0, k, _, hk => by
    have : k = 0 := by omega
    subst this
    exact Int.le_refl _
  | n + 1, k, h, hk => by
    by_cases e : k = n + 1
    · subst e
      exact Int.le_refl _
    · have := j_sum_le (n := n) (k := k) (fun i hi => h i (by omega)) (by omega)
      have := h n (by omega)
      show j_sum W b k ≤ j_sum W b n + W (b + n)
      omega
theorem j_sum_hd {W : Nat → Int} : ∀ {n b : Nat}, j_sum W b (n + 1) = W b + j_sum W (b + 1) n
  | 0, b => by simp [j_sum]
  | n + 1, b => by
    have ih := j_sum_hd (W := W) (n := n) (b := b)
    show j_sum W b (n + 1) + W (b + (n + 1)) = W b + (j_sum W (b + 1) n + W (b + 1 + n))
    rw [ih, show b + (n + 1) = b + 1 + n by omega]
    omega
/-- one place changed -/
theorem j_sum_up {W : Nat → Int} {b k : Nat} {z : Int} : ∀ {n : Nat}, k < n → j_sum (fun j => if j = b + k then z else W j) b n = j_sum W b n - W (b + k) + z
  | 0, hk => by omega
  | n + 1, hk => by
    unfold j_sum
    by_cases e : k = n
    · subst e
      rw [j_sum_congr (V := W) (n := k) (fun i hi => if_neg (by omega)), if_pos rfl]
      omega
    · rw [j_sum_up (n := n) (by omega), if_neg (by omega)]
      omega
theorem j_ok_congr {W V : Nat → Int} {t : Nat} (ht : j_bits t ≤ 10) (h : ∀ k, k < 11 → W (11 * t + k) = V (11 * t + k)) (hw : j_ok W t) : j_ok V t := by
  refine ⟨fun k hk => ?_, ?_, ?_⟩
  · rw [← h k hk]
    exact hw.1 k hk
  · rw [← j_sum_congr h]
    exact hw.2.1
  · rw [← h _ (by omega)]
    exact hw.2.2
/-- a row is done -/
theorem j_done {W : Nat → Int} {n : Nat} {x : Int} {lo : Prop} (hx : 0 ≤ x) (hl : lo) (h : j_at W n x lo) : j_ok W n := ⟨h.2.1, by have := h.2.2.1; omega, h.2.2.2 hl⟩
/-- the row of a set begins -/
theorem j_begin {W : Nat → Int} {n : Nat} (hn : n < 1024) (h : ∀ t, t < n → j_ok W t) (hz : ∀ k, k < 11 → W (11 * n + k) = if n = 0 ∧ k = 0 then 1 else 0) : j_at W n (j_rem n 1024 n) (n < 2 ^ j_fst n) := by
  refine ⟨h, fun k hk => ?_, ?_, fun hlo => ?_⟩
  · rw [hz k hk]
    split <;> omega
  · have a1 := j_a1 hn
    by_cases h0 : n = 0
    · subst h0
      have e : j_sum W (11 * 0) 11 = 1 := by
        have e1 : j_sum W (11 * 0) 11 = j_sum (fun j => if j = 0 then 1 else 0) (11 * 0) 11 := j_sum_congr (fun k hk => by
          rw [hz k hk]
          by_cases e : k = 0 <;> simp [e])
        rw [e1]
        decide
      rw [e]
      decide
    · have e : j_sum W (11 * n) 11 = 0 := by
        have e1 : j_sum W (11 * n) 11 = j_sum (fun _ => 0) (11 * n) 11 := j_sum_congr (fun k hk => by
          rw [hz k hk, if_neg (fun q => h0 q.1)])
        rw [e1]
        simp [j_sum]
      rw [e]
      omega
  · rcases (j_a2 hn).2.2.2 with h0 | h0
    · subst h0
      have e : j_bits 0 = 0 := rfl
      rw [e, hz 0 (by omega)]
      simp
    · omega
/-- one set passed over -/
theorem j_skip {W : Nat → Int} {n q : Nat} (hn : n < 1024) (hq : 1 ≤ q) (hq2 : q ≤ 1023) (hs : j_ck n 1024 q = true) (hne : ¬ q = 2 ^ j_fst n) (h : j_at W n (j_rem n 1024 q) (q < 2 ^ j_fst n)) : j_at W n (j_rem n 1024 (j_nx n q)) (j_nx n q < 2 ^ j_fst n) := by
  obtain ⟨a1, a2, a3, -, -, -⟩ := j_a4 hn hq (by omega) hs
  refine ⟨h.1, h.2.1, ?_, fun hlo => ?_⟩
  · have := h.2.2.1
    rw [j_rem_s hq (by omega)] at this
    split at this <;> omega
  · rcases a3 with a3 | a3
    · exact absurd a3 hne
    · omega
/-- one set to be added: the start -/
theorem j_add0 {W : Nat → Int} {n q : Nat} (hn : n < 1024) (hq : 1 ≤ q) (hs : j_ck n 1024 q = true) (hq2 : q ≤ 1023) (hb : q / 2 ^ j_fst n % 2 = 1) (h : j_at W n (j_rem n 1024 q) (q < 2 ^ j_fst n)) : j_at W n (j_sum W (11 * (n - q) + 0) (10 - 0) + j_rem n 1024 (j_nx n q)) (q ≤ 2 ^ j_fst n ∧ j_bits n ≤ 0) := by
  obtain ⟨a1, a2, -, -, -, -⟩ := j_a4 hn hq (by omega) hs
  have hr := h.1 (n - q) (by omega)
  have h10 : j_sum W (11 * (n - q)) 10 ≤ j_sum W (11 * (n - q)) 11 := j_sum_le hr.1 (by omega)
  refine ⟨h.1, h.2.1, ?_, fun hlo => ?_⟩
  · have h3 := h.2.2.1
    rw [j_rem_s hq (by omega), if_pos hb] at h3
    have := hr.2.1
    show j_sum W (11 * n) 11 + (j_sum W (11 * (n - q)) 10 + j_rem n 1024 (j_nx n q)) ≤ j_bell (j_bits n)
    omega
  · rcases (j_a2 hn).2.2.2 with h0 | h0
    · omega
    · omega
/-- one step of the adding -/
theorem j_add1 {W : Nat → Int} {n q e : Nat} (hn : n < 1024) (hq : 1 ≤ q) (hs : j_ck n 1024 q = true) (hq2 : q ≤ 1023) (he : e < 10) (h : j_at W n (j_sum W (11 * (n - q) + e) (10 - e) + j_rem n 1024 (j_nx n q)) (q ≤ 2 ^ j_fst n ∧ j_bits n ≤ e)) :
    j_at (fun j => if j = 11 * n + (e + 1) then W (11 * n + (e + 1)) + W (11 * (n - q) + e) else W j) n (j_sum (fun j => if j = 11 * n + (e + 1) then W (11 * n + (e + 1)) + W (11 * (n - q) + e) else W j) (11 * (n - q) + (e + 1)) (10 - (e + 1)) + j_rem n 1024 (j_nx n q)) (q ≤ 2 ^ j_fst n ∧ j_bits n ≤ e + 1) := by
  obtain ⟨a1, a2, -, -, -, -⟩ := j_a4 hn hq (by omega) hs
  have hr := h.1 (n - q) (by omega)
  have hre := hr.1 e (by omega)
  refine ⟨fun t ht => ?_, fun k hk => ?_, ?_, fun hlo => ?_⟩
  · exact j_ok_congr (j_a2 (n := t) (by omega)).1 (fun k hk => (if_neg (by omega)).symm) (h.1 t ht)
  · simp only
    split
    · have := h.2.1 (e + 1) (by omega)
      omega
    · exact h.2.1 k hk
  · have h3 := h.2.2.1
    rw [show 10 - e = (10 - (e + 1)) + 1 by omega, j_sum_hd (n := 10 - (e + 1)) (b := 11 * (n - q) + e)] at h3
    rw [j_sum_up (n := 11) (by omega), j_sum_congr (V := W) (b := 11 * (n - q) + (e + 1)) (fun k hk => if_neg (by omega))]
    rw [show 11 * (n - q) + (e + 1) = 11 * (n - q) + e + 1 by omega]
    omega
  · simp only
    have hn0 : (n = 0) → False := fun z => by omega
    rcases (j_a2 hn).2.2.2 with h0 | ⟨b1, b2, b3, b4⟩
    · exact (hn0 h0).elim
    have eq : q = 2 ^ j_fst n := by omega
    rw [← eq] at b4
    split
    · have := h.2.1 (e + 1) (by omega)
      have e1 : j_bits (n - q) = e := by omega
      have := hr.2.2
      rw [e1] at this
      omega
    · exact h.2.2.2 ⟨hlo.1, by omega⟩
/-- the adding is done -/
theorem j_add2 {W : Nat → Int} {n q : Nat} (hn : n < 1024) (hq : 1 ≤ q) (hq2 : q ≤ 1023) (hs : j_ck n 1024 q = true) (h : j_at W n (j_sum W (11 * (n - q) + 10) (10 - 10) + j_rem n 1024 (j_nx n q)) (q ≤ 2 ^ j_fst n ∧ j_bits n ≤ 10)) : j_at W n (j_rem n 1024 (j_nx n q)) (j_nx n q < 2 ^ j_fst n) := by
  obtain ⟨a1, a2, a3, -, -, -⟩ := j_a4 hn hq (by omega) hs
  refine ⟨h.1, h.2.1, ?_, fun hlo => ?_⟩
  · have h3 := h.2.2.1
    have e : j_sum W (11 * (n - q) + 10) (10 - 10) = 0 := rfl
    omega
  · have hb := (j_a2 hn).1
    refine h.2.2.2 ⟨?_, hb⟩
    rcases a3 with a3 | a3
    · omega
    · omega
end
section
/-! RULES OF THE READING: children of the fresh town (99) -/
section GH
variable {g : Int} {K : r_K}
def r_hav4 (E : b_E) (id : Nat) (us : List b_T) : Bool := match id, us with
  | 41, [c, n] => (decide (c = b_c 0) && b_eqv E n (b_c 0)) || r_any E 41 (fun w => match w with
    | [c0, n0] => decide (c = r_sft c0 1) && r_ge E (b_c 19) c0 0 && (match b_fm E 99 (r_pl c0 7) with
      | some e => r_any E 43 (fun y => match y with
        | [h] => (b_eqv E e h && b_eqv E n (r_sft n0 1)) || ((r_ge E e h 1 || r_ge E h e 1) && b_eqv E n n0)
        | _ => false)
      | none => false)
    | _ => false)
  | 42, [r] => (match b_fm E 99 (b_c 3) with
    | some t => r_ge E (b_c 20) t 0 && r_any E 41 (fun w => match w with | [c, n] => b_eqv E c t && b_eqv E r n | _ => false)
    | none => false)
  | _, _ => false
def r_imp5 (E : b_E) : Bool := r_has E 1 && r_any E 44 (fun w => match w with | [_, r] => r_ge E r (b_c 7) 0 | _ => false)
def r_st5 (E : b_E) (x w : b_T) : List b_Q := if x = b_c 2 ∧ r_has E 1 = true then (match b_fm E 99 (b_c 2) with | some H => if r_ge E w H 0 = true then [(1, [])] else [] | none => []) else []
def r_st4 (E : b_E) (x w : b_T) : List b_Q := match b_fm E 99 (b_c 3) with
  | none => r_st5 E x w
  | some t => if b_eqv E x (r_pl t 7) = true then E.2.2.2.2.filter (fun u => (Nat.beq u.1 1 && u.2.isEmpty) || (Nat.beq u.1 44 && Nat.beq u.2.length 2))
    else if r_dv6 x.1 = true ∧ (x.2 - 7) % 6 ≠ 0 ∧ b_ent E.2.1 E.2.2.1 (r_sft x (-4)) = true then E.2.2.2.2.filter (fun u => Nat.beq u.1 44 && Nat.beq u.2.length 2)
    else if x = b_c 3 ∧ b_eqv E w (r_sft t 1) = true ∧ r_has E 1 = true ∧ r_ge E (b_c 19) t 0 = true ∧ r_ge E t (b_c 0) 0 = true then (match b_fm E 99 (r_pl t 7), b_fm E 99 (b_c 2) with
      | some h, some H => if r_ge E h (b_c 0) 0 = true ∧ r_ge E H h 1 = true ∧ r_any E 44 (fun y => match y with | [h1, r] => b_eqv E h h1 && r_ge E (b_c 5) r 0 | _ => false) = true then [(1, [])] else []
      | _, _ => [])
    else r_st5 E x w
section RC
variable {v : List Int} {E : b_E} {m m1 : q_M} {j : Nat} {x w : b_T}
theorem r_imp5_ok (hE : bg_E (r_F K g) v E m) : ¬ r_imp5 E = true := by
  intro h
  unfold r_imp5 at h
  rw [Bool.and_eq_true] at h
  have hJ : r_J m 99 0 := r_has_ok hE h.1
  obtain ⟨u, hu, h1, h2⟩ := r_any_ok h.2
  split at h2
  rotate_left
  · cases h2
  rename_i h0 r hu2
  obtain ⟨a, b, a1, b1, ab⟩ := r_tok2 hE hu hu2
  rw [h1] at ab
  obtain ⟨k, k1, k2, k3⟩ : ∃ k : Nat, q_i m 99 3 = k ∧ k ≤ 20 ∧ b = r_cnt (r_home m 99 0) a k := ab
  have := r_ge_ok hE h2 b1 (b_is_c 7)
  have hb := hJ.2 a (by simp only [Nat.zero_add]; omega)
  simp only [Nat.zero_add, k1, Int.toNat_natCast] at hb
  omega
theorem r_hav4_ok (hE : bg_E (r_F K g) v E m) {id : Nat} {us : List b_T} {zs : List Int} (hz : g_2 (b_is v) us zs) (h : r_hav4 E id us = true) : r_F K g id zs m := by
  unfold r_hav4 at h
  split at h
  · obtain ⟨c, ys, rfl, hc, h0⟩ := g_ca hz
    obtain ⟨n, ys, rfl, hn, h0⟩ := g_ca h0
    have := g_na h0
    subst this
    show ∃ k : Nat, c = k ∧ k ≤ 20 ∧ n = r_cnt (r_home m 99 0) g k
    rw [Bool.or_eq_true] at h
    rcases h with h | h
    · rw [Bool.and_eq_true, decide_eq_true_eq] at h
      have e := h.1
      rw [e] at hc
      have := b_is_uniq hc (b_is_c 0)
      have := b_eqv_ok hE h.2 hn (b_is_c 0)
      exact ⟨0, by omega, by omega, by simp only [r_cnt]; omega⟩
    · obtain ⟨u, hu, h1, h2⟩ := r_any_ok h
      split at h2
      rotate_left
      · cases h2
      rename_i c0 n0 hu2
      simp only [Bool.and_eq_true, decide_eq_true_eq] at h2
      obtain ⟨⟨rfl, h3⟩, h4⟩ := h2
      obtain ⟨a, b, a1, b1, ab⟩ := r_tok2 hE hu hu2
      rw [h1] at ab
      obtain ⟨k, rfl, k2, k3⟩ : ∃ k : Nat, a = k ∧ k ≤ 20 ∧ b = r_cnt (r_home m 99 0) g k := ab
      have ec := b_is_uniq hc (r_sft_ok a1)
      have c19 := r_ge_ok hE h3 (b_is_c 19) a1
      split at h4
      rotate_left
      · cases h4
      rename_i e he
      have hh := (b_fm_ok hE he (r_pl_ok (d := 7) a1)).2
      have hhome : r_home m 99 0 k = q_i m 99 (7 + 6 * k) := by simp only [r_home, Nat.zero_add]
      rw [← hhome] at hh
      obtain ⟨u2, hu2', h5, h6⟩ := r_any_ok h4
      split at h6
      rotate_left
      · cases h6
      rename_i h0' hu3
      obtain ⟨gz, g1, g2⟩ := r_tok1 hE hu2' hu3
      rw [h5] at g2
      have g2 : gz = g := g2
      subst g2
      refine ⟨k + 1, by omega, by omega, ?_⟩
      simp only [r_cnt]
      simp only [Bool.or_eq_true, Bool.and_eq_true] at h6
      rcases h6 with ⟨e1, e2⟩ | ⟨e1, e2⟩
      · have i1 := b_eqv_ok hE e1 hh g1
        have i2 := b_eqv_ok hE e2 hn (r_sft_ok b1)
        rw [if_pos i1]
        omega
      · have i2 := b_eqv_ok hE e2 hn b1
        have : r_home m 99 0 k ≠ gz := by
          rcases e1 with e1 | e1
          · have := r_ge_ok hE e1 hh g1
            omega
          · have := r_ge_ok hE e1 g1 hh
            omega
        rw [if_neg this]
        omega
  · obtain ⟨r, ys, rfl, hr, h0⟩ := g_ca hz
    have := g_na h0
    subst this
    show ∃ k : Nat, q_i m 99 3 = k ∧ k ≤ 20 ∧ r = r_cnt (r_home m 99 0) g k
    split at h
    rotate_left
    · cases h
    rename_i t ht
    have hT := r_cst hE (d := 3) ht
    rw [Bool.and_eq_true] at h
    obtain ⟨u, hu, h1, h2⟩ := r_any_ok h.2
    split at h2
    rotate_left
    · cases h2
    rename_i c n hu2
    rw [Bool.and_eq_true] at h2
    obtain ⟨a, b, a1, b1, ab⟩ := r_tok2 hE hu hu2
    rw [h1] at ab
    obtain ⟨k, rfl, k2, k3⟩ : ∃ k : Nat, a = k ∧ k ≤ 20 ∧ b = r_cnt (r_home m 99 0) g k := ab
    have i1 := b_eqv_ok hE h2.1 a1 hT
    have i2 := b_eqv_ok hE h2.2 hr b1
    exact ⟨k, i1.symm, k2, by omega⟩
  · cases h
theorem r_st4_ok (hE : bg_E (r_F K g) v E m) (hx : b_is v x (j : Int)) (hm : ∀ d k, ¬ (d = 99 ∧ k = j) → q_at m1 d k = q_at m d k) (he : b_is v w (q_i m1 99 j)) : ∀ t ∈ r_st4 E x w, bg_Q (r_F K g) v m1 t := by
  intro t0 ht
  have hq : ∀ k, k ≠ j → q_i m1 99 k = q_i m 99 k := fun k hk => q_i_eq (hm 99 k (fun q => hk q.2))
  have jJ : ∀ {N H : Int}, q_i m1 99 3 = N → q_i m1 99 2 = H → r_blk N H (r_home m1 99 0) → bg_Q (r_F K g) v m1 (1, []) := by
    intro N H e3 e2 hb
    refine ⟨[], trivial, ?_⟩
    show r_blk (q_i m1 99 (0 + 3)) (q_i m1 99 (0 + 2)) (r_home m1 99 0)
    simp only [Nat.zero_add]
    rw [e3, e2]
    exact hb
  have h5 : ∀ t0 ∈ r_st5 E x w, bg_Q (r_F K g) v m1 t0 := by
    clear ht t0
    intro t0 ht
    unfold r_st5 at ht
    split at ht
    · rename_i hc
      obtain ⟨rfl, h1⟩ := hc
      have ej := b_is_uniq hx (b_is_c 2)
      have ej : j = 2 := by omega
      subst ej
      have hJ : r_blk (q_i m 99 (0 + 3)) (q_i m 99 (0 + 2)) (r_home m 99 0) := r_has_ok hE h1
      simp only [Nat.zero_add] at hJ
      split at ht
      rotate_left
      · cases ht
      rename_i H hH
      split at ht
      rotate_left
      · cases ht
      rename_i hc2
      have := List.mem_singleton.mp ht
      subst this
      have vH := r_cst hE (d := 2) hH
      have d1 := r_ge_ok hE hc2 he vH
      exact jJ (hq 3 (by omega)) rfl (r_blk_N (fun i i1 i2 => (hq (0 + 7 + 6 * i) (by omega)).symm) (r_blk_H (by omega) hJ))
    · cases ht
  unfold r_st4 at ht
  split at ht
  · exact h5 t0 ht
  rename_i t htm
  have hT := r_cst hE (d := 3) htm
  -- the count stays
  have c44 : (j ≠ 3) → (∀ i : Nat, (i : Int) < q_i m 99 3 → 0 + 7 + 6 * i ≠ j) → ∀ u ∈ E.2.2.2.2, (Nat.beq u.1 44 && Nat.beq u.2.length 2) = true → bg_Q (r_F K g) v m1 u := by
    intro hj3 hne u hu h
    rw [Bool.and_eq_true] at h
    have h1 := Nat.eq_of_beq_eq_true h.1
    have h2 := Nat.eq_of_beq_eq_true h.2
    obtain ⟨a0, b0, hu2⟩ : ∃ a b, u.2 = [a, b] := by
      match u.2, h2 with
      | [a, b], _ => exact ⟨a, b, rfl⟩
    obtain ⟨a, b, a1, b1, ab⟩ := r_tok2 hE hu hu2
    rw [h1] at ab
    obtain ⟨k, k1, k2, k3⟩ : ∃ k : Nat, q_i m 99 3 = k ∧ k ≤ 20 ∧ b = r_cnt (r_home m 99 0) a k := ab
    refine ⟨[a, b], by rw [hu2]; exact ⟨a1, b1, trivial⟩, ?_⟩
    rw [h1]
    show ∃ k : Nat, q_i m1 99 3 = k ∧ k ≤ 20 ∧ b = r_cnt (r_home m1 99 0) a k
    refine ⟨k, by rw [hq 3 (fun q => hj3 q.symm)]; exact k1, k2, ?_⟩
    rw [r_cnt_congr (f := r_home m1 99 0) (g := r_home m 99 0) (n := k) (fun i hi => hq (0 + 7 + 6 * i) (hne i (by omega)))]
    exact k3
  split at ht
  · rename_i hc
    have ej := b_eqv_ok hE hc hx (b_is_ad (k := 6) (b_is_c 7) hT)
    obtain ⟨hu, hf⟩ := List.mem_filter.mp ht
    rw [Bool.or_eq_true] at hf
    rcases hf with hf | hf
    · rw [Bool.and_eq_true] at hf
      have h1 := Nat.eq_of_beq_eq_true hf.1
      have h2 : t0.2 = [] := List.isEmpty_iff.mp hf.2
      have e0 : t0 = (1, []) := Prod.ext h1 h2
      subst e0
      obtain ⟨zs, z1, z2⟩ := hE.2.2.2.2 _ hu
      have := g_na z1
      subst this
      have z2 : r_blk (q_i m 99 (0 + 3)) (q_i m 99 (0 + 2)) (r_home m 99 0) := z2
      simp only [Nat.zero_add] at z2
      exact jJ (hq 3 (by omega)) (hq 2 (by omega)) (r_blk_N (fun k k1 k2 => (hq (0 + 7 + 6 * k) (by omega)).symm) z2)
    · exact c44 (by omega) (fun i hi => by omega) t0 hu hf
  split at ht
  · rename_i hc
    obtain ⟨h6, h7, h4⟩ := hc
    have h4 := b_ent_ok hE.2.1 hE.2.2.1 h4 (r_sft_ok hx)
    have hj6 : ((j : Int) - x.2) % 6 = 0 := by
      obtain ⟨s, s1, s2⟩ := hx
      have := r_dv6_ok h6 s1
      omega
    obtain ⟨hu, hf⟩ := List.mem_filter.mp ht
    exact c44 (by omega) (fun i hi => by omega) t0 hu hf
  split at ht
  · rename_i hc
    obtain ⟨rfl, hw, h1, h19, h0⟩ := hc
    have ej := b_is_uniq hx (b_is_c 3)
    have ej : j = 3 := by omega
    subst ej
    have hJ : r_blk (q_i m 99 (0 + 3)) (q_i m 99 (0 + 2)) (r_home m 99 0) := r_has_ok hE h1
    simp only [Nat.zero_add] at hJ
    have ew := b_eqv_ok hE hw he (r_sft_ok hT)
    have c19 := r_ge_ok hE h19 (b_is_c 19) hT
    have c0 := r_ge_ok hE h0 hT (b_is_c 0)
    obtain ⟨n, hn⟩ : ∃ n : Nat, q_i m 99 3 = n := ⟨(q_i m 99 3).toNat, by omega⟩
    rw [hn] at hT
    split at ht
    rotate_left
    · cases ht
    rename_i h H hh hH
    split at ht
    rotate_left
    · cases ht
    rename_i hc2
    have := List.mem_singleton.mp ht
    subst this
    have vh := (b_fm_ok hE hh (r_pl_ok (d := 7) hT)).2
    have vH := r_cst hE (d := 2) hH
    have d1 := r_ge_ok hE hc2.1 vh (b_is_c 0)
    have d2 := r_ge_ok hE hc2.2.1 vH vh
    obtain ⟨u, hu, u1, u2⟩ := r_any_ok hc2.2.2
    split at u2
    rotate_left
    · cases u2
    rename_i h1' r' hu2
    rw [Bool.and_eq_true] at u2
    obtain ⟨a, b, a1, b1, ab⟩ := r_tok2 hE hu hu2
    rw [u1] at ab
    obtain ⟨k, k1, k2, k3⟩ : ∃ k : Nat, q_i m 99 3 = k ∧ k ≤ 20 ∧ b = r_cnt (r_home m 99 0) a k := ab
    have i1 := b_eqv_ok hE u2.1 vh a1
    have i2 := r_ge_ok hE u2.2 (b_is_c 5) b1
    have hhome : r_home m 99 0 n = q_i m 99 (7 + 6 * n) := by simp only [r_home, Nat.zero_add]
    have ekn : k = n := by omega
    subst ekn
    refine jJ (N := q_i m 99 3 + 1) (H := q_i m 99 2) ew (hq 2 (by omega)) ?_
    refine r_blk_N (f := r_home m 99 0) (fun i i1 i2 => (hq (0 + 7 + 6 * i) (by omega)).symm) ?_
    refine r_blk_1 (f := r_home m 99 0) hn (by omega) hJ (by omega) (by omega) ?_
    rw [hhome, i1]
    omega
  exact h5 t0 ht
end RC
end GH
end
section
/-! THE MARRIAGES: what the rules stand on -/
section BFS
variable {W A H Q : Nat → Int} {g l : Int}
def z_up (f : Nat → Int) (k : Nat) (z : Int) : Nat → Int := fun j => if j = k then z else f j
theorem z_up_eq {f : Nat → Int} {k : Nat} {z : Int} : z_up f k z k = z := by simp [z_up]
theorem z_up_ne {f : Nat → Int} {k j : Nat} {z : Int} (h : j ≠ k) : z_up f k z j = f j := by simp [z_up, h]
theorem z_cg_le : ∀ n, z_cg A H n ≤ n
  | 0 => Nat.le_refl _
  | n + 1 => by
    have := z_cg_le n
    unfold z_cg
    split <;> omega
theorem z_cg_lt {k : Nat} (hk : ¬ 0 ≤ H k) : ∀ n, k < n → z_cg A H n + 1 ≤ n
  | 0, h => by omega
  | n + 1, h => by
    have h1 := z_cg_le (A := A) (H := H) n
    unfold z_cg
    by_cases e : k = n
    · subst e
      rw [if_neg (fun q => hk q.1)]
      omega
    · have := z_cg_lt hk n (by omega)
      split <;> omega
theorem z_cg_mono {A' : Nat → Int} : ∀ n, (∀ k, k < n → 0 ≤ H k → 0 ≤ A (H k).toNat → 0 ≤ A' (H k).toNat) → z_cg A H n ≤ z_cg A' H n
  | 0, _ => Nat.le_refl _
  | n + 1, h => by
    have ih := z_cg_mono n (fun k hk => h k (by omega))
    unfold z_cg
    by_cases c : 0 ≤ H n ∧ 0 ≤ A (H n).toNat
    · rw [if_pos c, if_pos ⟨c.1, h n (by omega) c.1 c.2⟩]
      omega
    · rw [if_neg c]
      omega
theorem z_cg_more {A' : Nat → Int} {k3 : Nat} (h1 : 0 ≤ H k3) (h2 : ¬ 0 ≤ A (H k3).toNat) (h3 : 0 ≤ A' (H k3).toNat) : ∀ n, k3 < n → (∀ k, k < n → 0 ≤ H k → 0 ≤ A (H k).toNat → 0 ≤ A' (H k).toNat) → z_cg A H n + 1 ≤ z_cg A' H n
  | 0, h, _ => by omega
  | n + 1, h, hm => by
    have im := z_cg_mono (A := A) (A' := A') (H := H) n (fun k hk => hm k (by omega))
    unfold z_cg
    by_cases e : k3 = n
    · subst e
      rw [if_neg (fun q => h2 q.2), if_pos ⟨h1, h3⟩]
      omega
    · have ih := z_cg_more h1 h2 h3 n (by omega) (fun k hk => hm k (by omega))
      by_cases c : 0 ≤ H n ∧ 0 ≤ A (H n).toNat
      · rw [if_pos c, if_pos ⟨c.1, hm n (by omega) c.1 c.2⟩]
        omega
      · rw [if_neg c]
        omega
theorem z_ca_le : ∀ n, z_ca A n ≤ n
  | 0 => Nat.le_refl _
  | n + 1 => by
    have := z_ca_le n
    unfold z_ca
    split <;> omega
theorem z_ca_up {k : Nat} {z : Int} (h1 : ¬ 0 ≤ A k) (h2 : 0 ≤ z) : ∀ n, (n ≤ k → z_ca (z_up A k z) n = z_ca A n) ∧ (k < n → z_ca (z_up A k z) n = z_ca A n + 1)
  | 0 => ⟨fun _ => rfl, fun h => by omega⟩
  | n + 1 => by
    obtain ⟨i1, i2⟩ := z_ca_up h1 h2 n
    unfold z_ca
    refine ⟨fun h => ?_, fun h => ?_⟩
    · rw [i1 (by omega), z_up_ne (by omega)]
    · by_cases e : k = n
      · subst e
        rw [i1 (Nat.le_refl _), z_up_eq, if_pos h2, if_neg h1]
      · rw [i2 (by omega), z_up_ne (fun q => e q.symm)]
        omega
/-- a boy is asked -/
theorem z_ask {k n : Nat} (hn : n < 20) (hk : k < 20) (hA : ¬ 0 ≤ A n) (h : z_bf W A H Q g l 0 (fun rk => ∃ j : Nat, j < 20 ∧ (k : Int) = j ∧ rk j)) (hl : l ≤ 1 + z_cg A H 20) :
    z_bf W (z_up A n k) H Q g l 1 (fun rk => ∃ j : Nat, j < 20 ∧ (k : Int) = j ∧ rk j) ∧ (0 ≤ W n → l ≤ z_cg (z_up A n k) H 20) := by
  obtain ⟨h1, h2, h3, h4, rb, rg, rk, T, ⟨r1, r2⟩, t1, t2, t3, q1, j0, j1, j2, p1⟩ := h
  have ej : j0 = k := by omega
  subst ej
  have hup : ∀ b : Nat, 0 ≤ A b → z_up A n j0 b = A b := fun b hb => z_up_ne (fun q => by subst q; exact hA hb)
  refine ⟨⟨h1, h2, h3, ?_, fun b => if b = n then T else rb b, rg, rk, T + 1, ⟨?_, ?_⟩, ?_, ?_, ?_, q1, j0, j1, rfl, p1⟩, ?_⟩
  · intro b hb
    have := h4 b hb
    by_cases e : b = n
    · subst e
      rw [z_up_eq]
      omega
    · rw [z_up_ne e]
      exact this
  · intro b hb i hi hab
    by_cases e : b = n
    · subst e
      rw [z_up_eq] at hab
      have : i = j0 := by omega
      subst this
      simp only [if_true]
      exact ⟨p1, t2 i hi p1⟩
    · rw [z_up_ne e] at hab
      simp only [if_neg e]
      exact r1 b hb i hi hab
  · intro i hi hr hlim
    obtain ⟨a1, a2⟩ := r2 i hi hr hlim
    refine ⟨a1, ?_⟩
    rcases a2 with a2 | ⟨b, b1, b2, b3, b4⟩
    · exact Or.inl a2
    · refine Or.inr ⟨b, b1, b2, by rw [hup b b3]; exact b3, ?_⟩
      have : b ≠ n := fun q => by subst q; exact hA b3
      simp only [if_neg this]
      exact b4
  · intro b hb hab
    by_cases e : b = n
    · simp only [if_pos e]
      omega
    · rw [z_up_ne e] at hab
      simp only [if_neg e]
      have := t1 b hb hab
      omega
  · intro i hi hr
    have := t2 i hi hr
    omega
  · have := (z_ca_up (A := A) (k := n) (z := (j0 : Int)) hA (by omega) 20).2 hn
    omega
  · intro hW
    have hw := h4 n hn
    obtain ⟨k3, hk3⟩ : ∃ i : Nat, W n = i := ⟨(W n).toNat, by omega⟩
    have hH := h1 n hn (by omega) k3 (by omega) hk3
    have hto : (H k3).toNat = n := by omega
    have := z_cg_more (A := A) (A' := z_up A n j0) (H := H) (k3 := k3) (by omega) (by rw [hto]; exact hA) (by rw [hto, z_up_eq]; omega) 20 (by omega) (fun i hi hi1 hi2 => by rw [hup _ hi2]; exact hi2)
    omega
/-- a girl behind in the queue -/
theorem z_push {n k3 ln : Nat} {P : (Nat → Prop) → Prop} (hP : ∀ rk rk' : Nat → Prop, (∀ i, rk i → rk' i) → P rk → P rk') (hn : n < 20) (hln : l = ln) (hl20 : ln < 20) (hA : 0 ≤ A n) (hW : W n = k3) (h : z_bf W A H Q g l 1 P) (hl : l ≤ z_cg A H 20) :
    z_bf W A H (z_up Q ln k3) g (l + 1) 0 P ∧ l + 1 ≤ 1 + z_cg A H 20 := by
  obtain ⟨h1, h2, h3, h4, rb, rg, rk, T, ⟨r1, r2⟩, t1, t2, t3, q1, p1⟩ := h
  have hw := h4 n hn
  have hk3 : k3 < 20 := by omega
  have hH := h1 n hn (by omega) k3 hk3 hW
  have hca := z_ca_le (A := A) 20
  refine ⟨⟨h1, h2, h3, h4, ?_⟩, by omega⟩
  by_cases hr : rk k3
  · refine ⟨rb, rg, rk, T, ⟨r1, r2⟩, t1, t2, by omega, ?_, p1⟩
    intro j hj hjl
    by_cases e : j = ln
    · subst e
      exact ⟨k3, hk3, z_up_eq, hr⟩
    · rw [z_up_ne e]
      exact q1 j hj (by omega)
  · refine ⟨rb, fun i => if i = k3 then T else rg i, fun i => rk i ∨ i = k3, T + 1, ⟨?_, ?_⟩, ?_, ?_, by omega, ?_, hP rk _ (fun i hi => Or.inl hi) p1⟩
    · intro b hb i hi hab
      obtain ⟨a1, a2⟩ := r1 b hb i hi hab
      have : i ≠ k3 := fun q => by subst q; exact hr a1
      simp only [if_neg this]
      exact ⟨Or.inl a1, a2⟩
    · intro i hi hri hlim
      by_cases e : i = k3
      · subst e
        simp only [if_true] at hlim ⊢
        refine ⟨?_, Or.inr ⟨n, hn, hH, hA, t1 n hn hA⟩⟩
        by_cases hg : g ≤ i
        · have := h3 i hi hg
          omega
        · omega
      · simp only [if_neg e] at hlim ⊢
        have hri : rk i := hri.elim id (fun q => absurd q e)
        exact r2 i hi hri hlim
    · intro b hb hab
      have := t1 b hb hab
      omega
    · intro i hi hri
      by_cases e : i = k3
      · simp only [if_pos e]
        omega
      · simp only [if_neg e]
        have := t2 i hi (hri.elim id (fun q => absurd q e))
        omega
    · intro j hj hjl
      by_cases e : j = ln
      · subst e
        exact ⟨k3, hk3, z_up_eq, Or.inr rfl⟩
      · rw [z_up_ne e]
        obtain ⟨k, a1, a2, a3⟩ := q1 j hj (by omega)
        exact ⟨k, a1, a2, Or.inl a3⟩
/-- one step of the way back -/
theorem z_lead {n k : Nat} {r : Int} {rb rg : Nat → Nat} {rk : Nat → Prop} (hn : n < 20) (hk : k < 20) (hW : W n = k) (hA : A n = k) (hi : z_inv W H n) (hg : ∀ i : Nat, i < 20 → g < i → H i = -1) (hr : ∀ i : Nat, i < 20 → -1 ≤ H i ∧ H i < 20) (hA20 : ∀ j : Nat, j < 20 → A j < 20) (hz : z_rk A H g rb rg rk (rb n)) (hb : (rb n : Int) ≤ r) :
    z_inv W (z_up H k n) (H k) ∧ (∀ i : Nat, i < 20 → g < i → z_up H k n i = -1) ∧ (0 ≤ H k → ∃ (n' : Nat) (rb rg : Nat → Nat) (rk : Nat → Prop), H k = n' ∧ n' < 20 ∧ (∃ i : Nat, i < 20 ∧ A n' = i) ∧ z_rk A (z_up H k n) g rb rg rk (rb n') ∧ (rb n' : Int) ≤ r - 1) := by
  obtain ⟨r1, r2⟩ := hz
  obtain ⟨s1, s2⟩ := r1 n hn k hk hA
  obtain ⟨s3, s4⟩ := r2 k hk s1 s2
  refine ⟨?_, ?_, ?_⟩
  · intro b hb hne i hi2 hwb
    by_cases e : b = n
    · subst e
      have : i = k := by omega
      subst this
      exact z_up_eq
    · have h1 := hi b hb (by omega) i hi2 hwb
      have : i ≠ k := fun q => by subst q; exact hne h1.symm
      rw [z_up_ne this]
      exact h1
  · intro i hi1 hi2
    rw [z_up_ne (by omega)]
    exact hg i hi1 hi2
  · intro h0
    rcases s4 with s4 | ⟨b, b1, b2, b3, b4⟩
    · omega
    · refine ⟨b, rb, rg, rk, b2, b1, ⟨(A b).toNat, by have := hA20 b b1; omega, by omega⟩, ⟨r1, ?_⟩, by omega⟩
      intro i hi1 hi2 hlim
      have : i ≠ k := fun q => by subst q; omega
      obtain ⟨a1, a2⟩ := r2 i hi1 hi2 (by omega)
      rw [z_up_ne this]
      exact ⟨a1, a2⟩
end BFS
end
section
/-! RULES OF THE MARRIAGES -/
section GH
variable {g : Int} {K : r_K}
def r_st9 (E : b_E) (x w : b_T) : List b_Q := E.2.2.2.2.filterMap (fun u => match Nat.beq u.1 92, Nat.beq u.1 81 with
  | true, _ => (match u.2 with | [t] => if b_eqv E x t = true ∧ b_eqv E w (b_c (-1)) = true then some (92, [r_sft t 1]) else none | _ => none)
  | _, true => (match u.2 with
    | [gg, l] => (match b_fm E 109 x with
      | some o => if b_eqv E w gg = true ∧ r_ge E (b_c (-1)) o 0 = true ∧ r_ge E (b_c 19) x 0 = true then some (86, [gg, x, l]) else none
      | none => none)
    | _ => none)
  | _, _ => none)
def r_st11 (E : b_E) (x w : b_T) : List b_Q := E.2.2.2.2.filterMap (fun u => match Nat.beq u.1 89, Nat.beq u.1 86 with
  | true, _ => (match u.2 with | [t] => if r_has E 88 = true ∧ b_eqv E x (b_c 0) = true ∧ b_eqv E w t = true ∧ r_any E 92 (fun w => match w with | [y] => r_ge E y (b_c 20) 0 | _ => false) = true then some (85, [b_c 1]) else none | _ => none)
  | _, true => (match u.2 with
    | [gg, b, l] => (match b_fm E 108 b with
      | some o => if b_eqv E x l = true ∧ b_eqv E w o = true ∧ r_ge E o (b_c 0) 0 = true ∧ r_ge E (b_c 19) x 0 = true then some (81, [gg, r_sft l 1]) else none
      | none => none)
    | _ => none)
  | _, _ => none)
def r_st8 (E : b_E) (x w : b_T) : List b_Q := E.2.2.2.2.filterMap (fun u => match Nat.beq u.1 82, Nat.beq u.1 90 with
  | true, _ => (match u.2 with
    | [b, r] => (match b_fm E 109 b with
      | some o => if b_eqv E x b = true ∧ b_eqv E w o = true then some (93, [b, w, r]) else none
      | none => none)
    | _ => none)
  | _, true => (match u.2 with | [t] => if b_eqv E x t = true ∧ b_eqv E w (b_c (-1)) = true then some (91, [t]) else none | _ => none)
  | _, _ => none)
def r_st10 (E : b_E) (x w : b_T) : List b_Q := E.2.2.2.2.filterMap (fun u => match Nat.beq u.1 93, Nat.beq u.1 91 with
  | true, _ => (match u.2 with
    | [b, gg, r] => (match b_fm E 110 x with
      | some o => if b_eqv E x gg = true ∧ b_eqv E w b = true then some (82, [o, r_sft r (-1)]) else none
      | none => none)
    | _ => none)
  | _, true => (match u.2 with | [t] => if b_eqv E x t = true ∧ b_eqv E w (b_c (-1)) = true then some (90, [r_sft t 1]) else none | _ => none)
  | _, _ => none)
def r_sto3 (E : b_E) (c : Nat) (x : b_T) (e : b_N) : List b_Q := match e with
  | (false, w) => (match Nat.beq c 109, Nat.beq c 111, Nat.beq c 108, Nat.beq c 110 with
    | true, _, _, _ => r_st9 E x w
    | _, true, _, _ => r_st11 E x w
    | _, _, true, _ => r_st8 E x w
    | _, _, _, true => r_st10 E x w
    | _, _, _, _ => [])
  | _ => []
def r_hav3 (E : b_E) (id : Nat) (us : List b_T) : Bool := match id, us with
  | 80, [x] => r_any E 80 (fun w => match w with | [y] => r_ge E x y 0 | _ => false) || r_any E 90 (fun w => match w with | [y] => r_ge E y (b_c 20) 0 | _ => false)
  | 81, [gg, l] => r_any E 85 (fun w => match w with | [y] => b_eqv E y l | _ => false) && E.2.2.2.1.any (fun o => Nat.beq o.1 111 && (match o.2.2 with | (false, e) => b_eqv E e gg && r_ge E l o.2.1 1 && r_ge E (b_c 19) o.2.1 0 | _ => false))
  | 85, [l] => r_any E 81 (fun w => match w with | [_, y] => b_eqv E y l | _ => false)
  | 82, [b, r] => r_ge E r (b_c 50) 0 && r_any E 86 (fun w => match w with | [_, y, _] => b_eqv E y b | _ => false)
  | 87, [] => r_any E 85 (fun w => match w with | [_] => true | _ => false) || r_any E 81 (fun w => match w with | [_, _] => true | _ => false) || r_any E 82 (fun w => match w with | [b, _] => r_ge E (b_c (-1)) b 0 | _ => false)
  | 90, [c] => r_ge E (b_c 0) c 0
  | 92, [c] => r_ge E (b_c 0) c 0
  | _, _ => false
def r_imp3 (E : b_E) : Bool := r_any E 86 (fun w => match w with
    | [_, b, l] => (match b_fm E 108 b with | some o => r_ge E o (b_c 0) 0 && r_ge E l (b_c 20) 0 | none => false)
    | _ => false)
  || r_any E 82 (fun w => match w with | [b, r] => r_ge E b (b_c 0) 0 && r_ge E (b_c 0) r 0 | _ => false)
/-- one who is on the way back was asked -/
def r_rdi (E : b_E) (a : Nat) (x : b_T) : Option (Int × Int) := match Nat.beq a 109 with
  | true => if r_any E 82 (fun w => match w with | [b, _] => b_eqv E x b | _ => false) = true then some (0, 19) else none
  | false => none
theorem r_kd3_F {id : Nat} {zs : List Int} {m : q_M} (h : r_kd3 id = true) : r_F K g id zs m = r_F3 g id zs m := by
  unfold r_kd3 at h
  split at h <;> first | rfl | (cases h; done)
section S3
variable {v : List Int} {E : b_E} {m m1 : q_M} {I : List b_I} {j : Nat} {x w : b_T}
theorem r_st9_ok (hE : bg_E (r_F K g) v E m) (hx : b_is v x (j : Int)) (hm : ∀ d k, ¬ (d = 109 ∧ k = j) → q_at m1 d k = q_at m d k) (he : b_is v w (q_i m1 109 j)) : ∀ t ∈ r_st9 E x w, bg_Q (r_F K g) v m1 t := by
  intro t ht
  have o8 : q_i m1 108 = q_i m 108 := funext fun k => q_i_eq (hm 108 k (fun q => absurd q.1 (by decide)))
  have o10 : q_i m1 110 = q_i m 110 := funext fun k => q_i_eq (hm 110 k (fun q => absurd q.1 (by decide)))
  have o11 : q_i m1 111 = q_i m 111 := funext fun k => q_i_eq (hm 111 k (fun q => absurd q.1 (by decide)))
  have o9 : ∀ k, k ≠ j → q_i m1 109 k = q_i m 109 k := fun k hk => q_i_eq (hm 109 k (fun q => hk q.2))
  obtain ⟨u, hu, h1⟩ := List.mem_filterMap.mp ht
  split at h1
  · have hid : u.1 = 92 := Nat.eq_of_beq_eq_true (by assumption)
    split at h1
    rotate_left
    · cases h1
    rename_i t0 hu2
    split at h1
    rotate_left
    · cases h1
    rename_i hc
    cases h1
    obtain ⟨z, z1, z2⟩ := r_tok1 hE hu hu2
    rw [hid] at z2
    have z2 : ∀ k : Nat, k < 20 → (k : Int) < z → q_i m 109 k = -1 := z2
    have c1 := b_eqv_ok hE hc.1 hx z1
    have c2 := b_eqv_ok hE hc.2 he (b_is_c (-1))
    refine ⟨[z + 1], ⟨r_sft_ok z1, trivial⟩, ?_⟩
    show ∀ k : Nat, k < 20 → (k : Int) < z + 1 → q_i m1 109 k = -1
    intro k k1 k2
    by_cases e : k = j
    · rw [e]
      exact c2
    · rw [o9 k e]
      exact z2 k k1 (by omega)
  · have hid : u.1 = 81 := Nat.eq_of_beq_eq_true (by assumption)
    split at h1
    rotate_left
    · cases h1
    rename_i gg l hu2
    split at h1
    rotate_left
    · cases h1
    rename_i o ho
    split at h1
    rotate_left
    · cases h1
    rename_i hc
    cases h1
    obtain ⟨a, b, a1, b1, ab⟩ := r_tok2 hE hu hu2
    rw [hid] at ab
    obtain ⟨ab, hl⟩ : z_bf (q_i m 108) (q_i m 109) (q_i m 110) (q_i m 111) g b 0 (fun rk => ∃ k : Nat, k < 20 ∧ a = k ∧ rk k) ∧ b ≤ 1 + z_cg (q_i m 109) (q_i m 110) 20 := ab
    have c1 := b_eqv_ok hE hc.1 he a1
    have hO := (b_fm_ok hE ho hx).2
    have c2 := r_ge_ok hE hc.2.1 (b_is_c (-1)) hO
    have c3 := r_ge_ok hE hc.2.2 (b_is_c 19) hx
    obtain ⟨k, hk, hak⟩ : ∃ k : Nat, k < 20 ∧ a = k := by
      obtain ⟨-, -, -, -, rb, rg, rk, T, -, -, -, -, -, k, k1, k2, -⟩ := ab
      exact ⟨k, k1, k2⟩
    subst hak
    obtain ⟨r1, r2⟩ := z_ask (by omega : j < 20) hk (by omega) ab hl
    have eu : q_i m1 109 = z_up (q_i m 109) j k := by
      funext i
      by_cases e : i = j
      · subst e
        rw [z_up_eq]
        exact c1
      · rw [z_up_ne e]
        exact o9 i e
    refine ⟨[(k : Int), (j : Int), b], ⟨a1, hx, b1, trivial⟩, ?_⟩
    show z_bf (q_i m1 108) (q_i m1 109) (q_i m1 110) (q_i m1 111) g b 1 (fun rk => ∃ i : Nat, i < 20 ∧ (k : Int) = i ∧ rk i) ∧ ∃ n : Nat, n < 20 ∧ (j : Int) = n ∧ 0 ≤ q_i m1 109 n ∧ (0 ≤ q_i m1 108 n → b ≤ z_cg (q_i m1 109) (q_i m1 110) 20) ∧ ∀ k : Nat, k < 20 → q_i m1 110 k = n → True
    rw [eu, o8, o10, o11]
    exact ⟨r1, j, by omega, rfl, by rw [z_up_eq]; omega, r2, fun _ _ _ => trivial⟩
  · cases h1
theorem r_st8_ok (hE : bg_E (r_F K g) v E m) (hx : b_is v x (j : Int)) (hm : ∀ d k, ¬ (d = 108 ∧ k = j) → q_at m1 d k = q_at m d k) (he : b_is v w (q_i m1 108 j)) (hx0 : 0 ≤ (j : Int)) : ∀ t ∈ r_st8 E x w, bg_Q (r_F K g) v m1 t := by
  intro t ht
  have o9 : q_i m1 109 = q_i m 109 := funext fun k => q_i_eq (hm 109 k (fun q => absurd q.1 (by decide)))
  have o10 : q_i m1 110 = q_i m 110 := funext fun k => q_i_eq (hm 110 k (fun q => absurd q.1 (by decide)))
  have o8 : ∀ k, k ≠ j → q_i m1 108 k = q_i m 108 k := fun k hk => q_i_eq (hm 108 k (fun q => hk q.2))
  obtain ⟨u, hu, h1⟩ := List.mem_filterMap.mp ht
  split at h1
  · have hid : u.1 = 82 := Nat.eq_of_beq_eq_true (by assumption)
    split at h1
    rotate_left
    · cases h1
    rename_i b r hu2
    split at h1
    rotate_left
    · cases h1
    rename_i o ho
    split at h1
    rotate_left
    · cases h1
    rename_i hc
    cases h1
    obtain ⟨bv, rv, b1, r1, br⟩ := r_tok2 hE hu hu2
    rw [hid] at br
    obtain ⟨i1, i2, i3, i4⟩ : z_inv (q_i m 108) (q_i m 110) bv ∧ (∀ k : Nat, k < 20 → g < k → q_i m 110 k = -1) ∧ (∀ k : Nat, k < 20 → -1 ≤ q_i m 110 k ∧ q_i m 110 k < 20)
      ∧ (0 ≤ bv → ∃ (n : Nat) (rb rg : Nat → Nat) (rk : Nat → Prop), bv = n ∧ n < 20 ∧ (∃ k : Nat, k < 20 ∧ q_i m 109 n = k) ∧ (∀ j : Nat, j < 20 → q_i m 109 j < 20) ∧ z_rk (q_i m 109) (q_i m 110) g rb rg rk (rb n) ∧ (rb n : Int) ≤ rv) := br
    have c1 := b_eqv_ok hE hc.1 hx b1
    obtain ⟨n, rb, rg, rk, n1, n2, ⟨k, k1, k2⟩, n3, n4, n5⟩ := i4 (by omega)
    have ej : n = j := by omega
    subst ej
    rw [n1] at b1
    have hO := (b_fm_ok hE ho b1).2
    have c2 := b_eqv_ok hE hc.2 he hO
    refine ⟨[(n : Int), q_i m1 108 n, rv], ⟨b1, he, r1, trivial⟩, ?_⟩
    refine ⟨n, k, n2, k1, rfl, by omega, by omega, by rw [o9]; exact k2, ?_, by rw [o10]; exact i2, by rw [o10]; exact i3, by rw [o9]; exact n3, rb, rg, rk, by rw [o9, o10]; exact n4, n5⟩
    intro b hb hne i hi hw
    rw [o8 b (by omega)] at hw
    rw [o10]
    exact i1 b hb (by omega) i hi hw
  · have hid : u.1 = 90 := Nat.eq_of_beq_eq_true (by assumption)
    split at h1
    rotate_left
    · cases h1
    rename_i t0 hu2
    split at h1
    rotate_left
    · cases h1
    rename_i hc
    cases h1
    obtain ⟨z, z1, z2⟩ := r_tok1 hE hu hu2
    rw [hid] at z2
    have z2 : ∀ k : Nat, k < 20 → (k : Int) < z → q_i m 108 k = -1 ∧ q_i m 110 k = -1 := z2
    have c1 := b_eqv_ok hE hc.1 hx z1
    have c2 := b_eqv_ok hE hc.2 he (b_is_c (-1))
    refine ⟨[z], ⟨z1, trivial⟩, ?_⟩
    show (∀ k : Nat, k < 20 → (k : Int) < z → q_i m1 108 k = -1 ∧ q_i m1 110 k = -1) ∧ ∀ k : Nat, k < 20 → (k : Int) = z → q_i m1 108 k = -1
    refine ⟨fun k k1 k2 => ?_, fun k k1 k2 => ?_⟩
    · rw [o8 k (by omega), o10]
      exact z2 k k1 k2
    · have : k = j := by omega
      rw [this]
      exact c2
  · cases h1
theorem r_st10_ok (hE : bg_E (r_F K g) v E m) (hx : b_is v x (j : Int)) (hb1 : ∀ k : Nat, k < 20 → -1 ≤ q_i m1 110 k ∧ q_i m1 110 k ≤ 19) (hm : ∀ d k, ¬ (d = 110 ∧ k = j) → q_at m1 d k = q_at m d k) (he : b_is v w (q_i m1 110 j)) : ∀ t ∈ r_st10 E x w, bg_Q (r_F K g) v m1 t := by
  intro t ht
  have o9 : q_i m1 109 = q_i m 109 := funext fun k => q_i_eq (hm 109 k (fun q => absurd q.1 (by decide)))
  have o8 : q_i m1 108 = q_i m 108 := funext fun k => q_i_eq (hm 108 k (fun q => absurd q.1 (by decide)))
  have o10 : ∀ k, k ≠ j → q_i m1 110 k = q_i m 110 k := fun k hk => q_i_eq (hm 110 k (fun q => hk q.2))
  obtain ⟨u, hu, h1⟩ := List.mem_filterMap.mp ht
  split at h1
  · have hid : u.1 = 93 := Nat.eq_of_beq_eq_true (by assumption)
    split at h1
    rotate_left
    · cases h1
    rename_i b gg r hu2
    split at h1
    rotate_left
    · cases h1
    rename_i o ho
    split at h1
    rotate_left
    · cases h1
    rename_i hc
    cases h1
    obtain ⟨bv, gv, rv, b1, g1, r1, br⟩ := r_tok3 hE hu hu2
    rw [hid] at br
    obtain ⟨n, k, n1, k1, n2, k2, w1, a1, i1, i2, i3, i4, rb, rg, rk, i5, i6⟩ : ∃ n k : Nat, n < 20 ∧ k < 20 ∧ bv = n ∧ gv = k ∧ q_i m 108 n = k ∧ q_i m 109 n = k ∧ z_inv (q_i m 108) (q_i m 110) bv ∧ (∀ k : Nat, k < 20 → g < k → q_i m 110 k = -1) ∧ (∀ k : Nat, k < 20 → -1 ≤ q_i m 110 k ∧ q_i m 110 k < 20)
      ∧ (∀ j : Nat, j < 20 → q_i m 109 j < 20) ∧ ∃ (rb rg : Nat → Nat) (rk : Nat → Prop), z_rk (q_i m 109) (q_i m 110) g rb rg rk (rb n) ∧ (rb n : Int) ≤ rv := br
    have c1 := b_eqv_ok hE hc.1 hx g1
    have c2 := b_eqv_ok hE hc.2 he b1
    have ej : k = j := by omega
    subst ej
    have hO := (b_fm_ok hE ho hx).2
    have eu : q_i m1 110 = z_up (q_i m 110) k n := by
      funext i
      by_cases e : i = k
      · subst e
        rw [z_up_eq]
        omega
      · rw [z_up_ne e]
        exact o10 i e
    rw [n2] at i1
    obtain ⟨s1, s2, s3⟩ := z_lead n1 k1 w1 a1 i1 i2 i3 i4 i5 i6
    refine ⟨[q_i m 110 k, rv + -1], ⟨hO, r_sft_ok r1, trivial⟩, ?_⟩
    show z_inv (q_i m1 108) (q_i m1 110) (q_i m 110 k) ∧ (∀ k : Nat, k < 20 → g < k → q_i m1 110 k = -1) ∧ (∀ k : Nat, k < 20 → -1 ≤ q_i m1 110 k ∧ q_i m1 110 k < 20)
      ∧ (0 ≤ q_i m 110 k → ∃ (n : Nat) (rb rg : Nat → Nat) (rk : Nat → Prop), q_i m 110 k = n ∧ n < 20 ∧ (∃ k : Nat, k < 20 ∧ q_i m1 109 n = k) ∧ (∀ j : Nat, j < 20 → q_i m1 109 j < 20) ∧ z_rk (q_i m1 109) (q_i m1 110) g rb rg rk (rb n) ∧ (rb n : Int) ≤ rv + -1)
    refine ⟨by rw [o8, eu]; exact s1, by rw [eu]; exact s2, fun i hi => by have := hb1 i hi; omega, fun h0 => ?_⟩
    obtain ⟨n', rb', rg', rk', t1, t2, t3, t4, t5⟩ := s3 h0
    exact ⟨n', rb', rg', rk', t1, t2, by rw [o9]; exact t3, by rw [o9]; exact i4, by rw [o9, eu]; exact t4, by omega⟩
  · have hid : u.1 = 91 := Nat.eq_of_beq_eq_true (by assumption)
    split at h1
    rotate_left
    · cases h1
    rename_i t0 hu2
    split at h1
    rotate_left
    · cases h1
    rename_i hc
    cases h1
    obtain ⟨z, z1, z2⟩ := r_tok1 hE hu hu2
    rw [hid] at z2
    obtain ⟨z2, z3⟩ : (∀ k : Nat, k < 20 → (k : Int) < z → q_i m 108 k = -1 ∧ q_i m 110 k = -1) ∧ ∀ k : Nat, k < 20 → (k : Int) = z → q_i m 108 k = -1 := z2
    have c1 := b_eqv_ok hE hc.1 hx z1
    have c2 := b_eqv_ok hE hc.2 he (b_is_c (-1))
    refine ⟨[z + 1], ⟨r_sft_ok z1, trivial⟩, ?_⟩
    show ∀ k : Nat, k < 20 → (k : Int) < z + 1 → q_i m1 108 k = -1 ∧ q_i m1 110 k = -1
    intro k k1 k2
    rw [o8]
    by_cases e : k = j
    · subst e
      exact ⟨z3 k k1 (by omega), c2⟩
    · rw [o10 k e]
      exact z2 k k1 (by omega)
  · cases h1
theorem r_st11_ok (hE : bg_E (r_F K g) v E m) (hx : b_is v x (j : Int)) (b8 : ∀ k : Nat, k < 20 → -1 ≤ q_i m 108 k ∧ q_i m 108 k ≤ 19) (b10 : ∀ k : Nat, k < 20 → -1 ≤ q_i m 110 k ∧ q_i m 110 k ≤ 19) (hm : ∀ d k, ¬ (d = 111 ∧ k = j) → q_at m1 d k = q_at m d k) (he : b_is v w (q_i m1 111 j)) : ∀ t ∈ r_st11 E x w, bg_Q (r_F K g) v m1 t := by
  intro t ht
  have o8 : q_i m1 108 = q_i m 108 := funext fun k => q_i_eq (hm 108 k (fun q => absurd q.1 (by decide)))
  have o9 : q_i m1 109 = q_i m 109 := funext fun k => q_i_eq (hm 109 k (fun q => absurd q.1 (by decide)))
  have o10 : q_i m1 110 = q_i m 110 := funext fun k => q_i_eq (hm 110 k (fun q => absurd q.1 (by decide)))
  have o11 : ∀ k, k ≠ j → q_i m1 111 k = q_i m 111 k := fun k hk => q_i_eq (hm 111 k (fun q => hk q.2))
  obtain ⟨u, hu, h1⟩ := List.mem_filterMap.mp ht
  split at h1
  · have hid : u.1 = 89 := Nat.eq_of_beq_eq_true (by assumption)
    split at h1
    rotate_left
    · cases h1
    rename_i t0 hu2
    split at h1
    rotate_left
    · cases h1
    rename_i hc
    cases h1
    obtain ⟨z, z1, z2⟩ := r_tok1 hE hu hu2
    rw [hid] at z2
    obtain ⟨rfl, g0, g20⟩ : z = g ∧ 0 ≤ g ∧ g < 20 := z2
    obtain ⟨h8, h80⟩ : z_inv (q_i m 108) (q_i m 110) (-1) ∧ ∀ k : Nat, k < 20 → z ≤ k → q_i m 110 k = -1 := r_has_ok hE hc.1
    have c1 := b_eqv_ok hE hc.2.1 hx (b_is_c 0)
    have c2 := b_eqv_ok hE hc.2.2.1 he z1
    obtain ⟨u2, hu2', h5, h6⟩ := r_any_ok hc.2.2.2
    split at h6
    rotate_left
    · cases h6
    rename_i y hu3
    obtain ⟨q, q1, q2⟩ := r_tok1 hE hu2' hu3
    rw [h5] at q2
    have q2 : ∀ k : Nat, k < 20 → (k : Int) < q → q_i m 109 k = -1 := q2
    have c3 := r_ge_ok hE h6 q1 (b_is_c 20)
    have hA : ∀ k : Nat, k < 20 → q_i m 109 k = -1 := fun k hk => q2 k hk (by omega)
    refine ⟨[1], ⟨b_is_c 1, trivial⟩, ?_⟩
    show z_bf (q_i m1 108) (q_i m1 109) (q_i m1 110) (q_i m1 111) z 1 0 (fun _ => True) ∧ 1 ≤ 1 + (z_cg (q_i m1 109) (q_i m1 110) 20 : Int)
    rw [o8, o9, o10]
    refine ⟨⟨h8, ⟨g0, g20⟩, h80, ?_, fun _ => 0, fun _ => 0, fun i => (i : Int) = z, 1, ⟨?_, ?_⟩, ?_, ?_, by omega, ?_, trivial⟩, by omega⟩
    · intro b hb
      have := hA b hb
      have := b8 b hb
      have := b10 b hb
      omega
    · intro b hb k hk hA1
      have := hA b hb
      omega
    · intro k hk hkz _
      exact ⟨by omega, Or.inl (h80 k hk (by omega))⟩
    · intro b hb hA1
      have := hA b hb
      omega
    · intro k hk _
      exact Nat.zero_lt_one
    · intro i hi hi1
      have : i = j := by omega
      subst this
      exact ⟨z.toNat, by omega, by omega, by omega⟩
  · have hid : u.1 = 86 := Nat.eq_of_beq_eq_true (by assumption)
    split at h1
    rotate_left
    · cases h1
    rename_i gg b l hu2
    split at h1
    rotate_left
    · cases h1
    rename_i o ho
    split at h1
    rotate_left
    · cases h1
    rename_i hc
    cases h1
    obtain ⟨gv, bv, lv, g1, b1, l1, br⟩ := r_tok3 hE hu hu2
    rw [hid] at br
    obtain ⟨bf, n, n1, n2, n3, n4, -⟩ : z_bf (q_i m 108) (q_i m 109) (q_i m 110) (q_i m 111) g lv 1 (fun rk => ∃ k : Nat, k < 20 ∧ gv = k ∧ rk k) ∧ ∃ n : Nat, n < 20 ∧ bv = n ∧ 0 ≤ q_i m 109 n ∧ (0 ≤ q_i m 108 n → lv ≤ z_cg (q_i m 109) (q_i m 110) 20) ∧ ∀ k : Nat, k < 20 → q_i m 110 k = n → True := br
    rw [n2] at b1
    have hO := (b_fm_ok hE ho b1).2
    have c1 := b_eqv_ok hE hc.1 hx l1
    have c2 := b_eqv_ok hE hc.2.1 he hO
    have c3 := r_ge_ok hE hc.2.2.1 hO (b_is_c 0)
    have c4 := r_ge_ok hE hc.2.2.2 (b_is_c 19) hx
    have hlv := n4 (by omega)
    have hW : q_i m 108 n = ((q_i m 108 n).toNat : Nat) := by omega
    have eu : q_i m1 111 = z_up (q_i m 111) j ((q_i m 108 n).toNat : Nat) := by
      funext i
      by_cases e : i = j
      · subst e
        rw [z_up_eq]
        omega
      · rw [z_up_ne e]
        exact o11 i e
    obtain ⟨s1, s2⟩ := z_push (P := fun rk => ∃ k : Nat, k < 20 ∧ gv = k ∧ rk k) (fun rk rk' hr => fun ⟨k, k1, k2, k3⟩ => ⟨k, k1, k2, hr k k3⟩) n1 c1.symm (by omega) n3 hW bf hlv
    refine ⟨[gv, lv + 1], ⟨g1, r_sft_ok l1, trivial⟩, ?_⟩
    show z_bf (q_i m1 108) (q_i m1 109) (q_i m1 110) (q_i m1 111) g (lv + 1) 0 (fun rk => ∃ k : Nat, k < 20 ∧ gv = k ∧ rk k) ∧ lv + 1 ≤ 1 + (z_cg (q_i m1 109) (q_i m1 110) 20 : Int)
    rw [o8, o9, o10, eu]
    exact ⟨s1, s2⟩
  · cases h1
end S3
theorem r_sto3_ok {v : List Int} {E : b_E} {m m1 : q_M} {I : List b_I} {c j : Nat} {x : b_T} {e : b_N} (hI : r_Iok I) (hM : bi_M I m) (hM1 : bi_M I m1) (hE : bg_E (r_F K g) v E m) (hx : b_is v x (j : Int)) (hm : ∀ d k, ¬ (d = c ∧ k = j) → q_at m1 d k = q_at m d k) (he : bg_n v e (q_at m1 c j)) : ∀ t ∈ r_sto3 E c x e, bg_Q (r_F K g) v m1 t := by
  intro t ht
  unfold r_sto3 at ht
  split at ht
  rotate_left
  · cases ht
  rename_i w
  have hw : b_is v w (q_i m1 c j) := by
    obtain ⟨z, z1, z2⟩ := he
    unfold q_i
    rw [z1]
    exact z2
  split at ht
  · have hc : c = 109 := Nat.eq_of_beq_eq_true (by assumption)
    subst hc
    exact r_st9_ok hE hx hm hw t ht
  · have hc : c = 111 := Nat.eq_of_beq_eq_true (by assumption)
    subst hc
    exact r_st11_ok hE hx (z_bd hI.1 hM) (z_bd hI.2.2.1 hM) hm hw t ht
  · have hc : c = 108 := Nat.eq_of_beq_eq_true (by assumption)
    subst hc
    exact r_st8_ok hE hx hm hw (by omega) t ht
  · have hc : c = 110 := Nat.eq_of_beq_eq_true (by assumption)
    subst hc
    exact r_st10_ok hE hx (z_bd hI.2.2.1 hM1) hm hw t ht
  · cases ht
section H3
variable {v : List Int} {E : b_E} {m : q_M}
theorem r_hav3_ok (hE : bg_E (r_F K g) v E m) {id : Nat} {us : List b_T} {zs : List Int} (hz : g_2 (b_is v) us zs) (h : r_hav3 E id us = true) : r_F K g id zs m := by
  unfold r_hav3 at h
  split at h
  · -- 80
    obtain ⟨y, ys, rfl, hy, h0⟩ := g_ca hz
    have := g_na h0
    subst this
    show z_inv (q_i m 108) (q_i m 110) (-1) ∧ ∀ k : Nat, k < 20 → y ≤ k → q_i m 110 k = -1
    rw [Bool.or_eq_true] at h
    rcases h with h | h
    · obtain ⟨u, hu, h2, h3⟩ := r_any_ok h
      split at h3
      rotate_left
      · cases h3
      rename_i t hu2
      obtain ⟨z, z1, z2⟩ := r_tok1 hE hu hu2
      rw [h2] at z2
      obtain ⟨z2, z3⟩ : z_inv (q_i m 108) (q_i m 110) (-1) ∧ ∀ k : Nat, k < 20 → z ≤ k → q_i m 110 k = -1 := z2
      have := r_ge_ok hE h3 hy z1
      exact ⟨z2, fun k k1 k2 => z3 k k1 (by omega)⟩
    · obtain ⟨u, hu, h2, h3⟩ := r_any_ok h
      split at h3
      rotate_left
      · cases h3
      rename_i t hu2
      obtain ⟨z, z1, z2⟩ := r_tok1 hE hu hu2
      rw [h2] at z2
      have z2 : ∀ k : Nat, k < 20 → (k : Int) < z → q_i m 108 k = -1 ∧ q_i m 110 k = -1 := z2
      have := r_ge_ok hE h3 z1 (b_is_c 20)
      refine ⟨fun b hb _ k hk hw => ?_, fun k k1 _ => (z2 k k1 (by omega)).2⟩
      have := (z2 b hb (by omega)).1
      omega
  · -- 81
    obtain ⟨y, ys, rfl, hy, h0⟩ := g_ca hz
    obtain ⟨y2, ys, rfl, hy2, h0⟩ := g_ca h0
    have := g_na h0
    subst this
    rw [Bool.and_eq_true] at h
    obtain ⟨u, hu, h2, h3⟩ := r_any_ok h.1
    split at h3
    rotate_left
    · cases h3
    rename_i t hu2
    obtain ⟨z, z1, z2⟩ := r_tok1 hE hu hu2
    rw [h2] at z2
    obtain ⟨⟨f1, f2, f3, f4, rb, rg, rk, T, f5, f6, f7, f8, f9, -⟩, hl⟩ : z_bf (q_i m 108) (q_i m 109) (q_i m 110) (q_i m 111) g z 0 (fun _ => True) ∧ z ≤ 1 + z_cg (q_i m 109) (q_i m 110) 20 := z2
    have ez := b_eqv_ok hE h3 z1 hy2
    subst ez
    obtain ⟨o, ho, h4⟩ := List.any_eq_true.mp h.2
    rw [Bool.and_eq_true] at h4
    obtain ⟨h41, h42⟩ := h4
    have h41 := Nat.eq_of_beq_eq_true h41
    split at h42
    rotate_left
    · cases h42
    rename_i e heq
    simp only [Bool.and_eq_true] at h42
    obtain ⟨k, k1, k2⟩ := hE.2.2.2.1 o ho
    rw [heq, h41] at k2
    obtain ⟨w, w1, w2⟩ := k2
    have eq1 : q_i m 111 k = w.toInt := by
      unfold q_i
      rw [w1]
    have c1 := b_eqv_ok hE h42.1.1 w2 hy
    have c2 := r_ge_ok hE h42.1.2 hy2 k1
    have c3 := r_ge_ok hE h42.2 (b_is_c 19) k1
    obtain ⟨i, i1, i2, i3⟩ := f9 k (by omega) (by omega)
    exact ⟨⟨f1, f2, f3, f4, rb, rg, rk, T, f5, f6, f7, f8, f9, i, i1, by omega, i3⟩, hl⟩
  · -- 85
    obtain ⟨y, ys, rfl, hy, h0⟩ := g_ca hz
    have := g_na h0
    subst this
    obtain ⟨u, hu, h2, h3⟩ := r_any_ok h
    split at h3
    rotate_left
    · cases h3
    rename_i t1 t hu2
    obtain ⟨z, z', z1, z1', z2⟩ := r_tok2 hE hu hu2
    rw [h2] at z2
    obtain ⟨⟨f1, f2, f3, f4, rb, rg, rk, T, f5, f6, f7, f8, f9, -⟩, hl⟩ : z_bf (q_i m 108) (q_i m 109) (q_i m 110) (q_i m 111) g z' 0 (fun rk => ∃ k : Nat, k < 20 ∧ z = k ∧ rk k) ∧ z' ≤ 1 + z_cg (q_i m 109) (q_i m 110) 20 := z2
    have ez := b_eqv_ok hE h3 z1' hy
    subst ez
    exact ⟨⟨f1, f2, f3, f4, rb, rg, rk, T, f5, f6, f7, f8, f9, trivial⟩, hl⟩
  · -- 82
    obtain ⟨y, ys, rfl, hy, h0⟩ := g_ca hz
    obtain ⟨y2, ys, rfl, hy2, h0⟩ := g_ca h0
    have := g_na h0
    subst this
    rw [Bool.and_eq_true] at h
    have c0 := r_ge_ok hE h.1 hy2 (b_is_c 50)
    obtain ⟨u, hu, h2, h3⟩ := r_any_ok h.2
    split at h3
    rotate_left
    · cases h3
    rename_i t1 t t2 hu2
    obtain ⟨gv, bv, lv, g1, b1, l1, br⟩ := r_tok3 hE hu hu2
    rw [h2] at br
    obtain ⟨⟨f1, f2, f3, f4, rb, rg, rk, T, f5, f6, f7, f8, f9, -⟩, n, n1, n2, n3, -, -⟩ : z_bf (q_i m 108) (q_i m 109) (q_i m 110) (q_i m 111) g lv 1 (fun rk => ∃ k : Nat, k < 20 ∧ gv = k ∧ rk k) ∧ ∃ n : Nat, n < 20 ∧ bv = n ∧ 0 ≤ q_i m 109 n ∧ (0 ≤ q_i m 108 n → lv ≤ z_cg (q_i m 109) (q_i m 110) 20) ∧ ∀ k : Nat, k < 20 → q_i m 110 k = n → True := br
    have ez := b_eqv_ok hE h3 b1 hy
    subst ez
    have hca := z_ca_le (A := q_i m 109) 20
    have hrb := f6 n n1 n3
    refine ⟨fun b hb _ => f1 b hb (by omega), fun k k1 k2 => f3 k k1 (by omega), fun k k1 => ?_, fun _ => ⟨n, rb, rg, rk, n2, n1, ⟨(q_i m 109 n).toNat, ?_, ?_⟩, fun i hi => (f4 i hi).2.1, ⟨f5.1, fun k k1 k2 k3 => f5.2 k k1 k2 (by omega)⟩, by omega⟩⟩
    · have := f4 k k1
      omega
    · have := f4 n n1
      omega
    · omega
  · -- 87
    have := g_na hz
    subst this
    show z_inv (q_i m 108) (q_i m 110) (-1) ∧ ∀ k : Nat, k < 20 → g < k → q_i m 110 k = -1
    rw [Bool.or_eq_true, Bool.or_eq_true] at h
    rcases h with (h | h) | h
    · obtain ⟨u, hu, h2, h3⟩ := r_any_ok h
      split at h3
      rotate_left
      · cases h3
      rename_i t hu2
      obtain ⟨z, z1, z2⟩ := r_tok1 hE hu hu2
      rw [h2] at z2
      obtain ⟨⟨f1, f2, f3, -⟩, -⟩ : z_bf (q_i m 108) (q_i m 109) (q_i m 110) (q_i m 111) g z 0 (fun _ => True) ∧ z ≤ 1 + z_cg (q_i m 109) (q_i m 110) 20 := z2
      exact ⟨f1, fun k k1 k2 => f3 k k1 (by omega)⟩
    · obtain ⟨u, hu, h2, h3⟩ := r_any_ok h
      split at h3
      rotate_left
      · cases h3
      rename_i t1 t hu2
      obtain ⟨z, z', z1, z1', z2⟩ := r_tok2 hE hu hu2
      rw [h2] at z2
      obtain ⟨⟨f1, f2, f3, -⟩, -⟩ : z_bf (q_i m 108) (q_i m 109) (q_i m 110) (q_i m 111) g z' 0 (fun rk => ∃ k : Nat, k < 20 ∧ z = k ∧ rk k) ∧ z' ≤ 1 + z_cg (q_i m 109) (q_i m 110) 20 := z2
      exact ⟨f1, fun k k1 k2 => f3 k k1 (by omega)⟩
    · obtain ⟨u, hu, h2, h3⟩ := r_any_ok h
      split at h3
      rotate_left
      · cases h3
      rename_i t1 t hu2
      obtain ⟨z, z', z1, z1', z2⟩ := r_tok2 hE hu hu2
      rw [h2] at z2
      obtain ⟨f1, f2, -⟩ : z_inv (q_i m 108) (q_i m 110) z ∧ (∀ k : Nat, k < 20 → g < k → q_i m 110 k = -1) ∧ _ := z2
      have := r_ge_ok hE h3 (b_is_c (-1)) z1
      exact ⟨fun b hb _ => f1 b hb (by omega), f2⟩
  · -- 90
    obtain ⟨y, ys, rfl, hy, h0⟩ := g_ca hz
    have := g_na h0
    subst this
    have := r_ge_ok hE h (b_is_c 0) hy
    show ∀ k : Nat, k < 20 → (k : Int) < y → q_i m 108 k = -1 ∧ q_i m 110 k = -1
    intro k _ hk
    omega
  · -- 92
    obtain ⟨y, ys, rfl, hy, h0⟩ := g_ca hz
    have := g_na h0
    subst this
    have := r_ge_ok hE h (b_is_c 0) hy
    show ∀ k : Nat, k < 20 → (k : Int) < y → q_i m 109 k = -1
    intro k _ hk
    omega
  · cases h
theorem r_rdi_ok (hE : bg_E (r_F K g) v E m) {a j : Nat} {x : b_T} {z : Int32} {q : Int × Int} (hx : b_is v x (j : Int)) (hz : q_at m a j = .int z) (h : r_rdi E a x = some q) : q.1 ≤ z.toInt ∧ z.toInt ≤ q.2 := by
  have hl : q_i m a j = z.toInt := by
    unfold q_i
    rw [hz]
  unfold r_rdi at h
  split at h
  rotate_left
  · cases h
  rename_i ha
  have ha := Nat.eq_of_beq_eq_true ha
  subst ha
  split at h
  rotate_left
  · cases h
  rename_i hc
  cases h
  obtain ⟨u, hu, h2, h3⟩ := r_any_ok hc
  split at h3
  rotate_left
  · cases h3
  rename_i b r hu2
  obtain ⟨bv, rv, b1, r1, br⟩ := r_tok2 hE hu hu2
  rw [h2] at br
  obtain ⟨i1, i2, i3, i4⟩ : z_inv (q_i m 108) (q_i m 110) bv ∧ (∀ k : Nat, k < 20 → g < k → q_i m 110 k = -1) ∧ (∀ k : Nat, k < 20 → -1 ≤ q_i m 110 k ∧ q_i m 110 k < 20)
    ∧ (0 ≤ bv → ∃ (n : Nat) (rb rg : Nat → Nat) (rk : Nat → Prop), bv = n ∧ n < 20 ∧ (∃ k : Nat, k < 20 ∧ q_i m 109 n = k) ∧ (∀ j : Nat, j < 20 → q_i m 109 j < 20) ∧ z_rk (q_i m 109) (q_i m 110) g rb rg rk (rb n) ∧ (rb n : Int) ≤ rv) := br
  have c1 := b_eqv_ok hE h3 hx b1
  obtain ⟨n, rb, rg, rk, n1, n2, ⟨k, k1, k2⟩, n3, n4, n5⟩ := i4 (by omega)
  have ej : n = j := by omega
  subst ej
  simp only
  omega
theorem r_imp3_ok (hE : bg_E (r_F K g) v E m) : ¬ r_imp3 E = true := by
  intro h
  unfold r_imp3 at h
  rw [Bool.or_eq_true] at h
  rcases h with h | h
  · obtain ⟨u, hu, h2, h3⟩ := r_any_ok h
    split at h3
    rotate_left
    · cases h3
    rename_i t1 b l hu2
    split at h3
    rotate_left
    · cases h3
    rename_i o ho
    rw [Bool.and_eq_true] at h3
    obtain ⟨gv, bv, lv, g1, b1, l1, br⟩ := r_tok3 hE hu hu2
    rw [h2] at br
    obtain ⟨⟨f1, f2, f3, -⟩, n, n1, n2, n3, n4, -⟩ : z_bf (q_i m 108) (q_i m 109) (q_i m 110) (q_i m 111) g lv 1 (fun rk => ∃ k : Nat, k < 20 ∧ gv = k ∧ rk k) ∧ ∃ n : Nat, n < 20 ∧ bv = n ∧ 0 ≤ q_i m 109 n ∧ (0 ≤ q_i m 108 n → lv ≤ z_cg (q_i m 109) (q_i m 110) 20) ∧ ∀ k : Nat, k < 20 → q_i m 110 k = n → True := br
    rw [n2] at b1
    have hO := (b_fm_ok hE ho b1).2
    have c1 := r_ge_ok hE h3.1 hO (b_is_c 0)
    have c2 := r_ge_ok hE h3.2 l1 (b_is_c 20)
    have := n4 (by omega)
    have hg := f3 g.toNat (by omega) (by omega)
    have := z_cg_lt (A := q_i m 109) (H := q_i m 110) (k := g.toNat) (by omega) 20 (by omega)
    omega
  · obtain ⟨u, hu, h2, h3⟩ := r_any_ok h
    split at h3
    rotate_left
    · cases h3
    rename_i b r hu2
    rw [Bool.and_eq_true] at h3
    obtain ⟨bv, rv, b1, r1, br⟩ := r_tok2 hE hu hu2
    rw [h2] at br
    obtain ⟨i1, i2, i3, i4⟩ : z_inv (q_i m 108) (q_i m 110) bv ∧ (∀ k : Nat, k < 20 → g < k → q_i m 110 k = -1) ∧ (∀ k : Nat, k < 20 → -1 ≤ q_i m 110 k ∧ q_i m 110 k < 20)
      ∧ (0 ≤ bv → ∃ (n : Nat) (rb rg : Nat → Nat) (rk : Nat → Prop), bv = n ∧ n < 20 ∧ (∃ k : Nat, k < 20 ∧ q_i m 109 n = k) ∧ (∀ j : Nat, j < 20 → q_i m 109 j < 20) ∧ z_rk (q_i m 109) (q_i m 110) g rb rg rk (rb n) ∧ (rb n : Int) ≤ rv) := br
    have c1 := r_ge_ok hE h3.1 b1 (b_is_c 0)
    have c2 := r_ge_ok hE h3.2 (b_is_c 0) r1
    obtain ⟨n, rb, rg, rk, n1, n2, ⟨k, k1, k2⟩, n3, n4, n5⟩ := i4 (by omega)
    have := (n4.1 n n2 k k1 k2).2
    omega
end H3
end GH
end
section
/-! RULES OF CALLS: what a call gives back on this memory -/
section GH
variable {g : Int} {K : r_K}
def r_imp4 (E : b_E) : Bool := r_any E 97 (fun a => match a with
  | [w, r] => r_any E 97 (fun b => match b with | [w1, r1] => decide (w = w1) && r_ge E r r1 1 | _ => false)
  | _ => false)
/-- one answer on one memory -/
def r_K1 (K : r_K) : Prop := ∀ w r r1 m, K w r m → K w r1 m → r = r1
theorem r_imp4_ok {v : List Int} {E : b_E} {m : q_M} (hK : r_K1 K) (hE : bg_E (r_F K g) v E m) : ¬ r_imp4 E = true := by
  intro h
  obtain ⟨u, hu, h1, h2⟩ := r_any_ok h
  split at h2
  rotate_left
  · cases h2
  rename_i w r hu2
  obtain ⟨u1, hu1, h3, h4⟩ := r_any_ok h2
  split at h4
  rotate_left
  · cases h4
  rename_i w1 r1 hu3
  rw [Bool.and_eq_true, decide_eq_true_eq] at h4
  obtain ⟨rfl, h5⟩ := h4
  obtain ⟨a, b, a1, b1, ab⟩ := r_tok2 hE hu hu2
  obtain ⟨a', b', a1', b1', ab'⟩ := r_tok2 hE hu1 hu3
  rw [h1] at ab
  rw [h3] at ab'
  have ab : K a.toNat b m := ab
  have ab' : K a'.toNat b' m := ab'
  have e := b_is_uniq a1 a1'
  subst e
  have := hK _ _ _ _ ab ab'
  have := r_ge_ok hE h5 b1 b1'
  omega
/-- the k-th method, of the object a, asked for a text -/
def r_call (G : q_G) (k a : Nat) : r_K := fun w r m => ∃ (M : q_MI) (n : Nat) (z : Int32), (q_gM G)[k]? = some M ∧ q_run G n M 0 (lv_args 0 [.ref a, .retAddr w]) [] m = some (some (.int z), m) ∧ z.toInt = r
theorem r_call_1 {G : q_G} {k a : Nat} : r_K1 (r_call G k a) := by
  intro w r r1 m ⟨M, n, z, h1, h2, h3⟩ ⟨M', n', z', h1', h2', h3'⟩
  rw [h1] at h1'
  cases h1'
  have e := q_fuel n (n + n') _ _ _ _ _ _ (by omega) h2
  have e' := q_fuel n' (n + n') _ _ _ _ _ _ (by omega) h2'
  rw [e] at e'
  simp only [Option.some.injEq, Prod.mk.injEq, Value.int.injEq, and_true] at e'
  rw [← h3, ← h3', e']
/-- a contract that writes nothing tells what it gives back -/
theorem r_is {G : q_G} {I : List b_I} {k a w : Nat} (hI : r_Iok I) (h : bc_ok G I (r_F (r_call G k a) g) (k, [.inr (.inl a), .inr (.inr w)], [(some (false, 0, 1), [])], [], [])) : bc_ok G I (r_F (r_call G k a) g) (k, [.inr (.inl a), .inr (.inr w)], [(some (false, 0, 0), [(97, [b_c w, b_c 0])]), (some (false, 1, 1), [(97, [b_c w, b_c 1])])], [], []) := by
  intro M hM ys zs m ha hm ht
  obtain ⟨n, r, m1, r1, r2, r3, o, o1, o2⟩ := h M hM ys zs m ha hm (fun t ht => by cases ht)
  have em : m1 = m := bi_ext hm r2 hI.2.2.2.2.2 (fun c j _ _ => r3 c j (fun ⟨q, hq, _⟩ => by cases hq))
  subst em
  obtain ⟨rfl, rfl⟩ : ys = [.ref a, .retAddr w] ∧ zs = [] := by
    cases ys with
    | nil => exact ha.elim
    | cons y ys =>
      obtain ⟨a1, ha⟩ := ha
      cases ys with
      | nil => exact ha.elim
      | cons y2 ys =>
        obtain ⟨a2, ha⟩ := ha
        cases ys with
        | cons _ _ => exact ha.elim
        | nil =>
          have ha : zs = [] := ha
          exact ⟨by rw [a1, a2], ha⟩
  have := List.mem_singleton.mp o1
  subst this
  unfold bc_out at o2
  cases r with
  | none => exact o2.elim
  | some y =>
    obtain ⟨z, ⟨x, rfl, rfl⟩, z2, z3, -⟩ := o2
    have z2 : 0 ≤ x.toInt := z2
    have z3 : x.toInt ≤ 1 := z3
    have tok : ∀ c : Int, x.toInt = c → ∀ t ∈ [((97 : Nat), [b_c (w : Int), b_c c])], bg_Q (r_F (r_call G k a) g) ([] ++ [x.toInt]) m1 t := by
      intro c hc t ht
      have := List.mem_singleton.mp ht
      subst this
      refine ⟨[(w : Int), c], ⟨b_is_c _, b_is_c _, trivial⟩, ?_⟩
      show r_call G k a (w : Int).toNat c m1
      exact ⟨M, n, x, hM, by simpa using r1, hc⟩
    by_cases h0 : x.toInt = 0
    · exact ⟨n, _, m1, r1, r2, r3, _, List.mem_cons_self, x.toInt, ⟨x, rfl, rfl⟩, by omega, by omega, tok 0 h0⟩
    · exact ⟨n, _, m1, r1, r2, r3, _, List.mem_cons_of_mem _ (List.mem_singleton.mpr rfl), x.toInt, ⟨x, rfl, rfl⟩, by omega, by omega, tok 1 (by omega)⟩
end GH
end
section
/-! RULES OF THE READING'S END -/
section GH
variable {g : Int} {K : r_K}
def r_sto5 (E : b_E) (c : Nat) (x : b_T) (e : b_N) : List b_Q := match e with
  | (true, _) => []
  | (false, w) => (match Nat.beq c 93 with
    | true => if x = b_c 8 then (match b_fm E 93 (b_c 8) with
      | some t => (if r_has E 120 = true ∧ r_ge E w t 0 = true then [(120, [])] else []) ++ (if (r_has E 121 = true ∧ r_ge E w t 0 = true) ∨ (r_has E 120 = true ∧ r_ge E w t 1 = true) then [(121, [])] else [])
      | none => []) else []
    | false => (match Nat.beq c 99 with
      | true => E.2.2.2.2.filterMap (fun u => match Nat.beq u.1 126, u.2 with
        | true, [a] => if b_eqv E x a = true ∧ b_eqv E w (b_c 0) = true then some (126, [r_sft a 1]) else none
        | _, _ => none)
      | false => []))
def r_hav5 (E : b_E) (id : Nat) (us : List b_T) : Bool := match id, us with
  | 120, [] => r_has E 121
  | 122, [] => r_has E 121 || (match b_fm E 93 (b_c 10) with | some t => b_eqv E t (b_c 0) | none => false)
  | 123, [] => r_has E 121 || r_has E 122 || (match b_fm E 93 (b_c 12) with | some t => r_ge E t (b_c 0) 1 || r_ge E (b_c 0) t 1 | none => false)
  | 124, [c] => (match b_fm E 93 (b_c 8) with
    | some t => r_ge E t (b_c 0) 0 && r_ge E (b_c 1199) t 0 && (match b_fm E 97 t with | some e => r_any E 127 (fun w => match w with | [r, s] => b_eqv E r c && b_eqv E s e | _ => false) | none => false)
    | none => false)
  | 126, [c] => r_ge E (b_c 0) c 0
  | 1, [] => r_any E 126 (fun w => match w with | [c] => r_ge E c (b_c 4) 0 | _ => false)
  | _, _ => false
def r_imp6 (E : b_E) : Bool := (match b_fm E 93 (b_c 8) with
    | some t => (match b_fm E 97 t with
      | some y => r_any E 124 (fun w => match w with | [c] => r_any E 127 (fun q => match q with | [r, s] => b_eqv E s y && (r_ge E r c 1 || r_ge E c r 1) | _ => false) | _ => false)
      | none => false)
    | none => false)
  || (r_has E 125 && (match b_fm E 93 (b_c 10), b_fm E 93 (b_c 12) with
    | some t, some u => (r_ge E t (b_c 0) 1 || r_ge E (b_c 0) t 1) && b_eqv E u (b_c 0)
    | _, _ => false))
section R5
variable {v : List Int} {E : b_E} {m m1 : q_M} {c j : Nat} {x : b_T} {e : b_N}
theorem r_sto5_ok (hE : bg_E (r_F K g) v E m) (hx : b_is v x (j : Int)) (hm : ∀ d k, ¬ (d = c ∧ k = j) → q_at m1 d k = q_at m d k) (he : bg_n v e (q_at m1 c j)) : ∀ t ∈ r_sto5 E c x e, bg_Q (r_F K g) v m1 t := by
  intro t ht
  unfold r_sto5 at ht
  split at ht
  · cases ht
  rename_i w
  obtain ⟨z, z1, z2⟩ := he
  have hw : b_is v w (q_i m1 c j) := by
    unfold q_i
    rw [z1]
    exact z2
  split at ht
  · rename_i hc
    have hc := Nat.eq_of_beq_eq_true hc
    subst hc
    split at ht
    rotate_left
    · cases ht
    rename_i hx8
    subst hx8
    have hj : (j : Int) = (8 : Nat) := b_is_uniq hx (b_is_c _)
    have hj : j = 8 := by omega
    subst hj
    split at ht
    rotate_left
    · cases ht
    rename_i u hu
    have hU := r_cst hE (c := 93) (d := 8) hu
    rcases List.mem_append.mp ht with ht | ht
    · split at ht
      rotate_left
      · cases ht
      rename_i h
      have := List.mem_singleton.mp ht
      subst this
      have h1 : g ≤ q_i m 93 8 := r_has_ok hE h.1
      have h2 := r_ge_ok hE h.2 hw hU
      exact ⟨[], trivial, show g ≤ q_i m1 93 8 by omega⟩
    · split at ht
      rotate_left
      · cases ht
      rename_i h
      have := List.mem_singleton.mp ht
      subst this
      refine ⟨[], trivial, show g < q_i m1 93 8 from ?_⟩
      rcases h with h | h
      · have h1 : g < q_i m 93 8 := r_has_ok hE h.1
        have h2 := r_ge_ok hE h.2 hw hU
        omega
      · have h1 : g ≤ q_i m 93 8 := r_has_ok hE h.1
        have h2 := r_ge_ok hE h.2 hw hU
        omega
  · split at ht
    rotate_left
    · cases ht
    rename_i hc
    have hc := Nat.eq_of_beq_eq_true hc
    subst hc
    obtain ⟨u, hu, hf⟩ := List.mem_filterMap.mp ht
    split at hf
    rotate_left
    · cases hf
    rename_i a h1 h2
    have h1 := Nat.eq_of_beq_eq_true h1
    split at hf
    rotate_left
    · cases hf
    rename_i hc
    have := Option.some.inj hf
    subst this
    obtain ⟨y, y1, y2⟩ := r_tok1 hE hu h2
    rw [h1] at y2
    have y2 : ∀ j : Nat, (j : Int) < y → j < 277 → q_i m 99 j = 0 := y2
    have e1 := b_eqv_ok hE hc.1 hx y1
    have e2 := b_eqv_ok hE hc.2 hw (b_is_c 0)
    refine ⟨[y + 1], ⟨r_sft_ok (d := 1) y1, trivial⟩, ?_⟩
    show ∀ k : Nat, (k : Int) < y + 1 → k < 277 → q_i m1 99 k = 0
    intro k k1 k2
    by_cases hk : k = j
    · subst hk
      exact e2
    · rw [q_i_eq (hm 99 k (fun q => hk q.2))]
      exact y2 k (by omega) k2
theorem r_hav5_ok (hE : bg_E (r_F K g) v E m) {id : Nat} {us : List b_T} {zs : List Int} (hz : g_2 (b_is v) us zs) (h : r_hav5 E id us = true) : r_F K g id zs m := by
  unfold r_hav5 at h
  split at h
  · have := g_na hz
    subst this
    have h1 : g < q_i m 93 8 := r_has_ok hE h
    show g ≤ q_i m 93 8
    omega
  · have := g_na hz
    subst this
    show g < q_i m 93 8 ∨ q_i m 93 10 = 0
    rw [Bool.or_eq_true] at h
    rcases h with h | h
    · exact Or.inl (show g < q_i m 93 8 from r_has_ok hE h)
    · split at h
      rotate_left
      · cases h
      rename_i t ht
      exact Or.inr (b_eqv_ok hE h (r_cst hE (c := 93) (d := 10) ht) (b_is_c 0))
  · have := g_na hz
    subst this
    show g < q_i m 93 8 ∨ q_i m 93 10 = 0 ∨ q_i m 93 12 ≠ 0
    rw [Bool.or_eq_true, Bool.or_eq_true] at h
    rcases h with (h | h) | h
    · exact Or.inl (show g < q_i m 93 8 from r_has_ok hE h)
    · have h1 : g < q_i m 93 8 ∨ q_i m 93 10 = 0 := r_has_ok hE h
      rcases h1 with h1 | h1
      · exact Or.inl h1
      · exact Or.inr (Or.inl h1)
    · split at h
      rotate_left
      · cases h
      rename_i t ht
      have hT := r_cst hE (c := 93) (d := 12) ht
      rw [Bool.or_eq_true] at h
      refine Or.inr (Or.inr ?_)
      rcases h with h | h
      · have := r_ge_ok hE h hT (b_is_c 0)
        omega
      · have := r_ge_ok hE h (b_is_c 0) hT
        omega
  · obtain ⟨c, ys, rfl, hc, h0⟩ := g_ca hz
    have := g_na h0
    subst this
    show 0 ≤ q_i m 93 8 ∧ q_i m 93 8 < 1200 ∧ r_lo (q_i m 97 (q_i m 93 8).toNat) = c
    split at h
    rotate_left
    · cases h
    rename_i t ht
    have hT := r_cst hE (c := 93) (d := 8) ht
    simp only [Bool.and_eq_true] at h
    have h1 := r_ge_ok hE h.1.1 hT (b_is_c 0)
    have h2 := r_ge_ok hE h.1.2 (b_is_c 1199) hT
    have h3 := h.2
    split at h3
    rotate_left
    · cases h3
    rename_i y hy
    have hj : b_is v t (((q_i m 93 8).toNat : Nat) : Int) := by
      rw [Int.toNat_of_nonneg (by omega)]
      exact hT
    obtain ⟨u, hu, u1, u2⟩ := r_any_ok h3
    split at u2
    rotate_left
    · cases u2
    rename_i r s hu2
    obtain ⟨a, b, a1, b1, ab⟩ := r_tok2 hE hu hu2
    rw [u1] at ab
    have ab : a = r_lo b := ab
    rw [Bool.and_eq_true] at u2
    have e1 := b_eqv_ok hE u2.1 a1 hc
    have e2 := b_eqv_ok hE u2.2 b1 (b_fm_ok hE hy hj).2
    exact ⟨by omega, by omega, by rw [← e2, ← ab, e1]⟩
  · obtain ⟨c, ys, rfl, hc, h0⟩ := g_ca hz
    have := g_na h0
    subst this
    show ∀ j : Nat, (j : Int) < c → j < 277 → q_i m 99 j = 0
    have := r_ge_ok hE h (b_is_c 0) hc
    intro j h1 h2
    omega
  · have := g_na hz
    subst this
    show r_J m 99 0
    obtain ⟨u, hu, h1, h2⟩ := r_any_ok h
    split at h2
    rotate_left
    · cases h2
    rename_i c hu2
    obtain ⟨y, y1, y2⟩ := r_tok1 hE hu hu2
    rw [h1] at y2
    have y2 : ∀ j : Nat, (j : Int) < y → j < 277 → q_i m 99 j = 0 := y2
    have := r_ge_ok hE h2 y1 (b_is_c 4)
    have e3 : q_i m 99 3 = 0 := y2 3 (by omega) (by omega)
    unfold r_J
    simp only [Nat.zero_add]
    rw [e3]
    exact ⟨fun k _ k2 => by omega, fun h _ => by simp [r_cnt]⟩
  · cases h
theorem r_imp6_ok (hE : bg_E (r_F K g) v E m) : ¬ r_imp6 E = true := by
  intro h
  unfold r_imp6 at h
  rw [Bool.or_eq_true] at h
  rcases h with h | h
  · split at h
    rotate_left
    · cases h
    rename_i t ht
    have hT := r_cst hE (c := 93) (d := 8) ht
    split at h
    rotate_left
    · cases h
    rename_i y hy
    obtain ⟨u, hu, h1, h2⟩ := r_any_ok h
    split at h2
    rotate_left
    · cases h2
    rename_i c hu2
    obtain ⟨a, a1, a2⟩ := r_tok1 hE hu hu2
    rw [h1] at a2
    obtain ⟨b1, b2, b3⟩ : 0 ≤ q_i m 93 8 ∧ q_i m 93 8 < 1200 ∧ r_lo (q_i m 97 (q_i m 93 8).toNat) = a := a2
    have hj : b_is v t (((q_i m 93 8).toNat : Nat) : Int) := by
      rw [Int.toNat_of_nonneg (by omega)]
      exact hT
    have hy2 := (b_fm_ok hE hy hj).2
    obtain ⟨u3, hu3, u4, u5⟩ := r_any_ok h2
    split at u5
    rotate_left
    · cases u5
    rename_i r s hu6
    obtain ⟨x, y, x1, y1, xy⟩ := r_tok2 hE hu3 hu6
    rw [u4] at xy
    have xy : x = r_lo y := xy
    rw [Bool.and_eq_true, Bool.or_eq_true] at u5
    have e1 := b_eqv_ok hE u5.1 y1 hy2
    rw [← e1, ← xy] at b3
    rcases u5.2 with h2 | h2
    · have := r_ge_ok hE h2 x1 a1
      omega
    · have := r_ge_ok hE h2 a1 x1
      omega
  · rw [Bool.and_eq_true] at h
    have h1 : q_i m 93 10 = 0 ∨ q_i m 93 12 ≠ 0 := r_has_ok hE h.1
    have h2 := h.2
    split at h2
    rotate_left
    · cases h2
    rename_i t u ht hu
    have hT := r_cst hE (c := 93) (d := 10) ht
    have hU := r_cst hE (c := 93) (d := 12) hu
    rw [Bool.and_eq_true, Bool.or_eq_true] at h2
    have e := b_eqv_ok hE h2.2 hU (b_is_c 0)
    rcases h2.1 with h3 | h3
    · have := r_ge_ok hE h3 hT (b_is_c 0)
      omega
    · have := r_ge_ok hE h3 (b_is_c 0) hT
      omega
end R5
end GH
end
section
/-! RULES OF THE JOININGS: what they are, and what holds when they say so -/
section GH
variable {g : Int} {K : r_K}
def r_y1 (E : b_E) (id : Nat) (f : b_T → Bool) : Bool := r_any E id (fun w => match w with | [a] => f a | _ => false)
def r_y2 (E : b_E) (id : Nat) (f : b_T → b_T → Bool) : Bool := r_any E id (fun w => match w with | [a, b] => f a b | _ => false)
def r_y3 (E : b_E) (id : Nat) (f : b_T → b_T → b_T → Bool) : Bool := r_any E id (fun w => match w with | [a, b, c] => f a b c | _ => false)
def r_y4 (E : b_E) (id : Nat) (f : b_T → b_T → b_T → b_T → Bool) : Bool := r_any E id (fun w => match w with | [a, b, c, d] => f a b c d | _ => false)
def r_ym (E : b_E) (c : Nat) (t : b_T) (f : b_T → Bool) : Bool := E.2.2.2.1.any (fun o => Nat.beq o.1 c && (b_eqv E o.2.1 t && (match o.2.2 with | (false, z) => f z | _ => false)))
def r_bit (E : b_E) (x y : b_T) (f : b_T → Bool) : Bool := r_y3 E 900 (fun z x0 y0 => b_eqv E x0 x && (b_eqv E y0 y && r_y2 E 901 (fun r z0 => b_eqv E z0 z && f r)))
def r_11 (a b : b_T) : b_T := b_ad b 11 a
def r_full (E : b_E) (f : b_T → Bool) : Bool := match b_fm E 93 (b_c 19) with
  | some t => r_y2 E 906 (fun z y => b_eqv E y t && f z)
  | none => false
section R6
variable {v : List Int} {E : b_E} {m m1 : q_M}
theorem r_tok4 (hE : bg_E (r_F K g) v E m) {u : b_Q} (hu : u ∈ E.2.2.2.2) {a b c d : b_T} (h : u.2 = [a, b, c, d]) : ∃ x y z w, b_is v a x ∧ b_is v b y ∧ b_is v c z ∧ b_is v d w ∧ r_F K g u.1 [x, y, z, w] m := by
  obtain ⟨zs, h1, h2⟩ := hE.2.2.2.2 u hu
  rw [h] at h1
  obtain ⟨x, ys, rfl, hx, h1⟩ := g_ca h1
  obtain ⟨y, ys, rfl, hy, h1⟩ := g_ca h1
  obtain ⟨z, ys, rfl, hz, h1⟩ := g_ca h1
  obtain ⟨w, ys, rfl, hw, h1⟩ := g_ca h1
  have := g_na h1
  subst this
  exact ⟨x, y, z, w, hx, hy, hz, hw, h2⟩
theorem r_y1_ok (hE : bg_E (r_F K g) v E m) {id : Nat} {f : b_T → Bool} (h : r_y1 E id f = true) : ∃ a x, b_is v a x ∧ r_F K g id [x] m ∧ f a = true := by
  obtain ⟨u, hu, h1, h2⟩ := r_any_ok h
  split at h2
  rotate_left
  · cases h2
  rename_i a hu2
  obtain ⟨x, x1, x2⟩ := r_tok1 hE hu hu2
  rw [h1] at x2
  exact ⟨a, x, x1, x2, h2⟩
theorem r_y2_ok (hE : bg_E (r_F K g) v E m) {id : Nat} {f : b_T → b_T → Bool} (h : r_y2 E id f = true) : ∃ a b x y, b_is v a x ∧ b_is v b y ∧ r_F K g id [x, y] m ∧ f a b = true := by
  obtain ⟨u, hu, h1, h2⟩ := r_any_ok h
  split at h2
  rotate_left
  · cases h2
  rename_i a b hu2
  obtain ⟨x, y, x1, y1, x2⟩ := r_tok2 hE hu hu2
  rw [h1] at x2
  exact ⟨a, b, x, y, x1, y1, x2, h2⟩
theorem r_y3_ok (hE : bg_E (r_F K g) v E m) {id : Nat} {f : b_T → b_T → b_T → Bool} (h : r_y3 E id f = true) : ∃ a b c x y z, b_is v a x ∧ b_is v b y ∧ b_is v c z ∧ r_F K g id [x, y, z] m ∧ f a b c = true := by
  obtain ⟨u, hu, h1, h2⟩ := r_any_ok h
  split at h2
  rotate_left
  · cases h2
  rename_i a b c hu2
  obtain ⟨x, y, z, x1, y1, z1, x2⟩ := r_tok3 hE hu hu2
  rw [h1] at x2
  exact ⟨a, b, c, x, y, z, x1, y1, z1, x2, h2⟩
theorem r_y4_ok (hE : bg_E (r_F K g) v E m) {id : Nat} {f : b_T → b_T → b_T → b_T → Bool} (h : r_y4 E id f = true) : ∃ a b c d x y z w, b_is v a x ∧ b_is v b y ∧ b_is v c z ∧ b_is v d w ∧ r_F K g id [x, y, z, w] m ∧ f a b c d = true := by
  obtain ⟨u, hu, h1, h2⟩ := r_any_ok h
  split at h2
  rotate_left
  · cases h2
  rename_i a b c d hu2
  obtain ⟨x, y, z, w, x1, y1, z1, w1, x2⟩ := r_tok4 hE hu hu2
  rw [h1] at x2
  exact ⟨a, b, c, d, x, y, z, w, x1, y1, z1, w1, x2, h2⟩
theorem r_ym_ok (hE : bg_E (r_F K g) v E m) {c : Nat} {t : b_T} {f : b_T → Bool} (h : r_ym E c t f = true) {j : Nat} (hj : b_is v t (j : Int)) : ∃ e, b_is v e (q_i m c j) ∧ f e = true := by
  obtain ⟨o, ho, h1⟩ := List.any_eq_true.mp h
  rw [Bool.and_eq_true, Bool.and_eq_true] at h1
  obtain ⟨h2, h3, h4⟩ := h1
  split at h4
  rotate_left
  · cases h4
  rename_i z hz
  obtain ⟨k, k1, k2⟩ := hE.2.2.2.1 o ho
  have e1 := b_eqv_ok hE h3 k1 hj
  have e2 : k = j := by omega
  subst e2
  rw [Nat.eq_of_beq_eq_true h2, hz] at k2
  obtain ⟨w, w1, w2⟩ := k2
  refine ⟨z, ?_, h4⟩
  unfold q_i
  rw [w1]
  exact w2
theorem r_bit_ok (hE : bg_E (r_F K g) v E m) {x y : b_T} {f : b_T → Bool} (h : r_bit E x y f = true) {n k : Nat} (hx : b_is v x (n : Int)) (hy : b_is v y (k : Int)) (hk : k ≤ 30) : ∃ r, b_is v r ((n / 2 ^ k % 2 : Nat) : Int) ∧ f r = true := by
  obtain ⟨z, x0, y0, z', x', y', z1, x1, y1, t1, h1⟩ := r_y3_ok hE h
  obtain ⟨a, b, a1, b1, ab⟩ : ∃ a b : Int32, a.toInt = x' ∧ b.toInt = y' ∧ (a >>> (b &&& 31)).toInt = z' := t1
  rw [Bool.and_eq_true, Bool.and_eq_true] at h1
  have e1 := b_eqv_ok hE h1.1 x1 hx
  have e2 := b_eqv_ok hE h1.2.1 y1 hy
  obtain ⟨r, z0, r', z0', r1, z01, t2, h2⟩ := r_y2_ok hE h1.2.2
  obtain ⟨c, c1, c2⟩ : ∃ a : Int32, a.toInt = z0' ∧ (a &&& 1).toInt = r' := t2
  rw [Bool.and_eq_true] at h2
  have e3 := b_eqv_ok hE h2.1 z01 z1
  rw [r_shr (by omega) (by omega : b.toInt = (k : Int)) hk, a1, e1] at ab
  have hz0 : 0 ≤ z' := by
    rw [← ab]
    exact Int.ediv_nonneg (by omega) (by exact Int.le_of_lt (Int.pow_pos (by decide)))
  rw [r_and1 (by omega), c1, e3, ← ab] at c2
  refine ⟨r, ?_, h2.2⟩
  have : ((n / 2 ^ k % 2 : Nat) : Int) = r' := by
    rw [← c2]
    simp
  rw [this]
  exact r1
theorem r_11_ok {a b : b_T} {x y : Int} (ha : b_is v a x) (hb : b_is v b y) : b_is v (r_11 a b) (11 * x + y) := by
  have := b_is_ad (k := 11) hb ha
  rw [show 11 * x + y = y + 11 * x by omega]
  exact this
theorem r_full_ok (hE : bg_E (r_F K g) v E m) {f : b_T → Bool} (h : r_full E f = true) {n : Nat} (hn : q_i m 93 19 = n) (hn10 : n ≤ 10) : ∃ z, b_is v z ((2 ^ n : Nat) : Int) ∧ f z = true := by
  unfold r_full at h
  split at h
  rotate_left
  · cases h
  rename_i t ht
  have hT := r_cst hE (c := 93) (d := 19) ht
  obtain ⟨z, y, z', y', z1, y1, t1, h1⟩ := r_y2_ok hE h
  rw [Bool.and_eq_true] at h1
  have e1 := b_eqv_ok hE h1.1 y1 hT
  have t1 : ∀ n : Nat, y' = n → n ≤ 30 → z' = 2 ^ n := t1
  have e2 := t1 n (by omega) (by omega)
  refine ⟨z, ?_, h1.2⟩
  rw [show ((2 ^ n : Nat) : Int) = z' by rw [e2]; simp]
  exact z1
/-- the place of a number in the last row -/
theorem r_idx {z c : b_T} {n k : Nat} (hz : b_is v z ((2 ^ n : Nat) : Int)) (hc : b_is v c (k : Int)) : b_is v (r_sft (r_11 z c) (-11)) ((11 * (2 ^ n - 1) + k : Nat) : Int) := by
  have h1 := r_sft_ok (d := -11) (r_11_ok hz hc)
  have hp : 1 ≤ 2 ^ n := Nat.one_le_two_pow
  rw [show ((11 * (2 ^ n - 1) + k : Nat) : Int) = 11 * ((2 ^ n : Nat) : Int) + (k : Int) + -11 by omega]
  exact h1
theorem j_a5 {n q : Nat} (hn : n < 1024) (hq : 1 ≤ q) (h : j_ck n 1024 q = true) : q ≤ n := by
  have e : j_ck n 1024 q = (Nat.beq q 0 || (j_c1 n q && j_ck n 1023 (j_nx n q))) := rfl
  rw [e, Bool.or_eq_true] at h
  rcases h with h | h
  · have := Nat.eq_of_beq_eq_true h
    omega
  · rw [Bool.and_eq_true] at h
    have h1 := h.1
    unfold j_c1 at h1
    simp only [Bool.and_eq_true] at h1
    exact Nat.le_of_ble_eq_true h1.2.1
theorem r_p10 {n : Nat} (h : n ≤ 10) : 2 ^ n ≤ 1024 := by
  have : 2 ^ n ≤ 2 ^ 10 := Nat.pow_le_pow_right (by omega) h
  omega
end R6
def r_sto6 (E : b_E) (c : Nat) (x : b_T) (e : b_N) : List b_Q := match e with
  | (true, _) => []
  | (false, w) => match c with
    | 101 => E.2.2.2.2.filter (fun u => Nat.beq u.1 134 && (match u.2 with | [a] => r_ge E x a 0 | _ => false))
    | 102 => E.2.2.2.2.filter (fun u => Nat.beq u.1 134 && (match u.2 with | [a] => r_ge E x a 0 | _ => false))
    | 103 => E.2.2.2.2.filter (fun u => Nat.beq u.1 134 && (match u.2 with | [a] => r_ge E x a 0 | _ => false))
    | 107 => E.2.2.2.2.filterMap (fun u => match Nat.beq u.1 135, u.2 with
      | true, [a] => if b_eqv E x a = true ∧ r_y2 E 138 (fun s r => b_eqv E s x && b_eqv E r w) = true ∧ r_ge E (b_c 1023) x 0 = true then some (135, [r_sft a 1]) else none
      | _, _ => none)
    | 104 => E.2.2.2.2.filterMap (fun u => match u.1, u.2 with
      | 151, [a, k] => if b_eqv E x (r_11 a k) = true ∧ r_ge E (b_c 10) k 0 = true ∧ r_ge E k (b_c 0) 0 = true ∧ ((b_eqv E a (b_c 0) && (b_eqv E k (b_c 0) && b_eqv E w (b_c 1))) || ((r_ge E a (b_c 1) 0 || r_ge E k (b_c 1) 0) && b_eqv E w (b_c 0))) = true then some (151, [a, r_sft k 1]) else none
      | 157, [a, q, r, k] => if b_eqv E x (r_sft (r_11 a k) 1) = true ∧ r_ge E (b_c 9) k 0 = true ∧ r_ym E 104 x (fun X => r_ym E 104 (r_11 r k) (fun Z => b_eqv E w (b_ad X 1 Z))) = true then some (157, [a, q, r, r_sft k 1]) else none
      | _, _ => none)
    | _ => []
def r_imp7 (E : b_E) : Bool := r_y1 E 131 (fun c => r_ge E c (b_c 11) 0 || (r_ge E c (b_c 10) 0 && r_full E (fun z => r_ym E 104 (r_sft (r_11 z c) (-11)) (fun u => b_eqv E u (b_c 0)))))
  || r_y1 E 132 (fun c => r_ge E (b_c (-1)) c 0 || (r_ge E (b_c 0) c 0 && (r_ge E c (b_c 0) 0 && r_full E (fun z => r_ym E 104 (r_sft (r_11 z c) (-11)) (fun u => b_eqv E u (b_c 0))))))
  || r_y2 E 133 (fun c w => (r_ge E (b_c 10) c 0 && (r_ge E c (b_c 0) 0 && r_full E (fun z => r_ym E 104 (r_sft (r_11 z c) (-11)) (fun u => r_ge E (b_ad w 1 u) (b_c 115976) 0)))) || (r_ge E w (b_c 115976) 0 || (r_ge E (b_c (-1)) w 0 || (r_ge E c (b_c 11) 0 && r_ge E (b_c 0) w 0))))
  || (r_has E 140 && (match b_fm E 93 (b_c 20) with | some t => r_ge E t (b_c 0) 0 || r_ge E (b_c (-2)) t 0 | none => false))
def r_rdi6 (E : b_E) (a : Nat) (x : b_T) : Option (Int × Int) := match Nat.beq a 104 with
  | false => none
  | true => if (r_y4 E 157 (fun s _ r k => r_ge E (b_c 9) k 0 && (b_eqv E x (r_sft (r_11 s k) 1) || b_eqv E x (r_11 r k))) || ((r_has E 130 || r_y2 E 133 (fun _ _ => true)) && r_full E (fun z => r_ge E (r_sft (b_ad x (-11) z) 11) (b_c 0) 0 && r_ge E (b_c 10) (r_sft (b_ad x (-11) z) 11) 0))) = true then some (0, 115975) else none
section S6
variable {v : List Int} {E : b_E} {m m1 : q_M} {c j : Nat} {x : b_T} {e : b_N}
theorem r_imp7_ok (hE : bg_E (r_F K g) v E m) : ¬ r_imp7 E = true := by
  intro h
  unfold r_imp7 at h
  rw [Bool.or_eq_true, Bool.or_eq_true, Bool.or_eq_true] at h
  have hp : ∀ {n k : Nat}, n ≤ 10 → k < 11 → 11 * (2 ^ n - 1) + k < 11264 := fun hn hk => by
    have := r_p10 hn
    omega
  rcases h with ((h | h) | h) | h
  · obtain ⟨c, cz, c1, t1, h1⟩ := r_y1_ok hE h
    obtain ⟨n, n1, n2, k, k1, k2, k3⟩ : ∃ n : Nat, q_i m 93 19 = n ∧ n ≤ 10 ∧ ∃ k : Nat, k < 11 ∧ cz ≤ k ∧ q_w m 104 11264 (11 * (2 ^ n - 1) + k) ≠ 0 := t1
    rw [Bool.or_eq_true] at h1
    rcases h1 with h1 | h1
    · have := r_ge_ok hE h1 c1 (b_is_c 11)
      omega
    · rw [Bool.and_eq_true] at h1
      have h2 := r_ge_ok hE h1.1 c1 (b_is_c 10)
      have ek : cz = (k : Int) := by omega
      subst ek
      obtain ⟨z, z1, z2⟩ := r_full_ok hE h1.2 n1 n2
      obtain ⟨u, u1, u2⟩ := r_ym_ok hE z2 (r_idx z1 c1)
      have := b_eqv_ok hE u2 u1 (b_is_c 0)
      exact k3 (by rw [q_w_at (hp n2 k1)]; exact this)
  · obtain ⟨c, cz, c1, t1, h1⟩ := r_y1_ok hE h
    obtain ⟨n, n1, n2, k, k1, k2, k3⟩ : ∃ n : Nat, q_i m 93 19 = n ∧ n ≤ 10 ∧ ∃ k : Nat, k < 11 ∧ k ≤ cz ∧ q_w m 104 11264 (11 * (2 ^ n - 1) + k) ≠ 0 := t1
    rw [Bool.or_eq_true] at h1
    rcases h1 with h1 | h1
    · have := r_ge_ok hE h1 (b_is_c (-1)) c1
      omega
    · rw [Bool.and_eq_true, Bool.and_eq_true] at h1
      have h2 := r_ge_ok hE h1.1 (b_is_c 0) c1
      have ek : cz = (k : Int) := by omega
      subst ek
      obtain ⟨z, z1, z2⟩ := r_full_ok hE h1.2.2 n1 n2
      obtain ⟨u, u1, u2⟩ := r_ym_ok hE z2 (r_idx z1 c1)
      have := b_eqv_ok hE u2 u1 (b_is_c 0)
      exact k3 (by rw [q_w_at (hp n2 k1)]; exact this)
  · obtain ⟨c, w, cz, wz, c1, w1, t1, h1⟩ := r_y2_ok hE h
    obtain ⟨n, k, n1, n2, k1, k2, k3, k4⟩ : ∃ n e : Nat, q_i m 93 19 = n ∧ n ≤ 10 ∧ cz = e ∧ e ≤ 11 ∧ wz = j_sum (q_w m 104 11264) (11 * (2 ^ n - 1)) e ∧ j_ok (q_w m 104 11264) (2 ^ n - 1) := t1
    have hb := j_a2 (n := 2 ^ n - 1) (by have := r_p10 n2; omega)
    have hs := k4.2.1
    have hm := j_sum_le (k := k) k4.1 k2
    have hnn := j_sum_nn (W := q_w m 104 11264) (b := 11 * (2 ^ n - 1)) (n := k) (fun i hi => k4.1 i (by omega))
    rw [Bool.or_eq_true, Bool.or_eq_true, Bool.or_eq_true] at h1
    rcases h1 with h1 | h1 | h1 | h1
    · rw [Bool.and_eq_true, Bool.and_eq_true] at h1
      have h2 := r_ge_ok hE h1.1 (b_is_c 10) c1
      obtain ⟨z, z1, z2⟩ := r_full_ok hE h1.2.2 n1 n2
      rw [k1] at c1
      obtain ⟨u, u1, u2⟩ := r_ym_ok hE z2 (r_idx z1 c1)
      have h3 := r_ge_ok hE u2 (b_is_ad (k := 1) w1 u1) (b_is_c 115976)
      have h4 := j_sum_le (k := k + 1) k4.1 (by omega)
      have h5 : j_sum (q_w m 104 11264) (11 * (2 ^ n - 1)) (k + 1) = j_sum (q_w m 104 11264) (11 * (2 ^ n - 1)) k + q_w m 104 11264 (11 * (2 ^ n - 1) + k) := rfl
      rw [q_w_at (hp n2 (by omega))] at h5
      omega
    · have := r_ge_ok hE h1 w1 (b_is_c 115976)
      omega
    · have := r_ge_ok hE h1 (b_is_c (-1)) w1
      omega
    · rw [Bool.and_eq_true] at h1
      have h2 := r_ge_ok hE h1.1 c1 (b_is_c 11)
      have h3 := r_ge_ok hE h1.2 (b_is_c 0) w1
      have e11 : k = 11 := by omega
      subst e11
      have h4 := j_sum_ge k4.1 (j_bits (2 ^ n - 1)) (by omega)
      have := k4.2.2
      omega
  · rw [Bool.and_eq_true] at h
    have h1 : q_i m 93 20 = -1 := r_has_ok hE h.1
    have h2 := h.2
    split at h2
    rotate_left
    · cases h2
    rename_i t ht
    rw [Bool.or_eq_true] at h2
    rcases h2 with h2 | h2
    · have := r_ge_ok hE h2 (r_cst hE (c := 93) (d := 20) ht) (b_is_c 0)
      omega
    · have := r_ge_ok hE h2 (b_is_c (-2)) (r_cst hE (c := 93) (d := 20) ht)
      omega
theorem r_rdi6_ok (hE : bg_E (r_F K g) v E m) {a : Nat} {z : Int32} {q : Int × Int} (hx : b_is v x (j : Int)) (hz : q_at m a j = .int z) (h : r_rdi6 E a x = some q) : q.1 ≤ z.toInt ∧ z.toInt ≤ q.2 := by
  unfold r_rdi6 at h
  split at h
  · cases h
  rename_i ha
  have ha := Nat.eq_of_beq_eq_true ha
  subst ha
  split at h
  rotate_left
  · cases h
  rename_i hc
  cases h
  have hzi : q_i m 104 j = z.toInt := by
    unfold q_i
    rw [hz]
  rw [← hzi]
  have key : ∀ t k : Nat, t < 1024 → k < 11 → (j : Int) = ((11 * t + k : Nat) : Int) → (∀ k, k < 11 → 0 ≤ q_w m 104 11264 (11 * t + k)) → j_sum (q_w m 104 11264) (11 * t) 11 ≤ j_bell (j_bits t) → 0 ≤ q_i m 104 j ∧ q_i m 104 j ≤ 115975 := by
    intro t k ht hk ej h1 h2
    have ej : j = 11 * t + k := by omega
    have h3 := h1 k hk
    have h4 := j_sum_ge h1 k hk
    have h5 := (j_a2 ht).2.2.1
    rw [← ej, q_w_at (by omega)] at h3 h4
    exact ⟨h3, by omega⟩
  rw [Bool.or_eq_true] at hc
  rcases hc with hc | hc
  · obtain ⟨s, o, r, k, sz, oz, rz, kz, s1, o1, r1, k1, t1, h1⟩ := r_y4_ok hE hc
    obtain ⟨n, q, e, rfl, rfl, rfl, rfl, e2, n2, q1, ck, -, jt⟩ : ∃ n q e : Nat, sz = n ∧ oz = q ∧ rz = ((n - q : Nat) : Int) ∧ kz = e ∧ e ≤ 10 ∧ n < 1024 ∧ 1 ≤ q ∧ j_ck n 1024 q = true ∧ g = 1024 * n + q ∧ j_at (q_w m 104 11264) n (j_sum (q_w m 104 11264) (11 * (n - q) + e) (10 - e) + j_rem n 1024 (j_nx n q)) (q ≤ 2 ^ j_fst n ∧ j_bits n ≤ e) := t1
    rw [Bool.and_eq_true, Bool.or_eq_true] at h1
    have h9 := r_ge_ok hE h1.1 (b_is_c 9) k1
    have hqn := j_a5 n2 q1 ck
    have hok := jt.1 (n - q) (by omega)
    rcases h1.2 with h2 | h2
    · have ej := b_eqv_ok hE h2 hx (r_sft_ok (d := 1) (r_11_ok s1 k1))
      refine key n (e + 1) n2 (by omega) (by omega) jt.2.1 ?_
      have h3 := jt.2.2.1
      have h4 := j_sum_nn (W := q_w m 104 11264) (b := 11 * (n - q) + e) (n := 10 - e) (fun k hk => by
        have := hok.1 (e + k) (by omega)
        rw [show 11 * (n - q) + e + k = 11 * (n - q) + (e + k) by omega]
        exact this)
      omega
    · have ej := b_eqv_ok hE h2 hx (r_11_ok r1 k1)
      exact key (n - q) e (by omega) (by omega) (by omega) hok.1 hok.2.1
  · rw [Bool.and_eq_true, Bool.or_eq_true] at hc
    obtain ⟨n, n1, n2, hok⟩ : ∃ n : Nat, q_i m 93 19 = n ∧ n ≤ 10 ∧ j_ok (q_w m 104 11264) (2 ^ n - 1) := by
      rcases hc.1 with h1 | h1
      · exact r_has_ok hE h1
      · obtain ⟨c, w, cz, wz, c1, w1, t1, -⟩ := r_y2_ok hE h1
        obtain ⟨n, k, n1, n2, k1, k2, k3, k4⟩ : ∃ n e : Nat, q_i m 93 19 = n ∧ n ≤ 10 ∧ cz = e ∧ e ≤ 11 ∧ wz = j_sum (q_w m 104 11264) (11 * (2 ^ n - 1)) e ∧ j_ok (q_w m 104 11264) (2 ^ n - 1) := t1
        exact ⟨n, n1, n2, k4⟩
    obtain ⟨z0, z1, z2⟩ := r_full_ok hE hc.2 n1 n2
    rw [Bool.and_eq_true] at z2
    have hd := r_sft_ok (d := 11) (b_is_ad (k := -11) hx z1)
    have h1 := r_ge_ok hE z2.1 hd (b_is_c 0)
    have h2 := r_ge_ok hE z2.2 (b_is_c 10) hd
    have hp := r_p10 n2
    have hp1 : 1 ≤ 2 ^ n := Nat.one_le_two_pow
    exact key (2 ^ n - 1) (j - 11 * (2 ^ n - 1)) (by omega) (by omega) (by omega) hok.1 hok.2.1
theorem r_sto6_ok (hE : bg_E (r_F K g) v E m) (hx : b_is v x (j : Int)) (hm : ∀ d k, ¬ (d = c ∧ k = j) → q_at m1 d k = q_at m d k) (he : bg_n v e (q_at m1 c j)) : ∀ t ∈ r_sto6 E c x e, bg_Q (r_F K g) v m1 t := by
  intro t ht
  unfold r_sto6 at ht
  split at ht
  · cases ht
  rename_i w
  obtain ⟨z, z1, z2⟩ := he
  have hw : b_is v w (q_i m1 c j) := by
    unfold q_i
    rw [z1]
    exact z2
  have h134 : c = 101 ∨ c = 102 ∨ c = 103 → t ∈ E.2.2.2.2.filter (fun u => Nat.beq u.1 134 && (match u.2 with | [a] => r_ge E x a 0 | _ => false)) → bg_Q (r_F K g) v m1 t := by
    intro hc ht
    obtain ⟨hu, h1⟩ := List.mem_filter.mp ht
    rw [Bool.and_eq_true] at h1
    obtain ⟨h2, h3⟩ := h1
    split at h3
    rotate_left
    · cases h3
    rename_i a hu2
    obtain ⟨y, y1, y2⟩ := r_tok1 hE hu hu2
    have h2 := Nat.eq_of_beq_eq_true h2
    obtain ⟨t1, t2⟩ := t
    simp only at h2 hu2
    subst h2
    subst hu2
    have y2 : ∀ i : Nat, (i : Int) < y → i < 10 → 1 ≤ q_w m 101 10 i + q_w m 103 10 i ∧ q_w m 103 10 i ≤ q_w m 102 10 i := y2
    have h4 := r_ge_ok hE h3 hx y1
    refine ⟨[y], ⟨y1, trivial⟩, ?_⟩
    show ∀ i : Nat, (i : Int) < y → i < 10 → 1 ≤ q_w m1 101 10 i + q_w m1 103 10 i ∧ q_w m1 103 10 i ≤ q_w m1 102 10 i
    intro i i1 i2
    have hq : ∀ d, q_w m1 d 10 i = q_w m d 10 i := fun d => by
      unfold q_w
      rw [if_pos i2, if_pos i2]
      exact q_i_eq (hm d i (fun q => by omega))
    rw [hq, hq, hq]
    exact y2 i i1 i2
  split at ht
  · exact h134 (by simp) ht
  · exact h134 (by simp) ht
  · exact h134 (by simp) ht
  · obtain ⟨u, hu, hf⟩ := List.mem_filterMap.mp ht
    split at hf
    rotate_left
    · cases hf
    rename_i a h1 h2
    have h1 := Nat.eq_of_beq_eq_true h1
    split at hf
    rotate_left
    · cases hf
    rename_i hc
    have := Option.some.inj hf
    subst this
    obtain ⟨y, y1, y2⟩ := r_tok1 hE hu h2
    rw [h1] at y2
    have y2 : ∀ k : Nat, k < 10 → (k : Int) < q_i m 93 19 → ((2 ^ k : Nat) : Int) < y → q_w m 107 1024 (2 ^ k) ≠ 0 := y2
    have ey := b_eqv_ok hE hc.1 hx y1
    obtain ⟨s, r, sz, rz, s1, r1, t1, h3⟩ := r_y2_ok hE hc.2.1
    have hj := r_ge_ok hE hc.2.2 (b_is_c 1023) hx
    have hj : j < 1024 := by omega
    have t1 : ∀ k : Nat, k < 10 → (k : Int) < q_i m 93 19 → sz = ((2 ^ k : Nat) : Int) → rz ≠ 0 := t1
    rw [Bool.and_eq_true] at h3
    have e1 := b_eqv_ok hE h3.1 s1 hx
    have e2 := b_eqv_ok hE h3.2 r1 hw
    refine ⟨[y + 1], ⟨r_sft_ok (d := 1) y1, trivial⟩, ?_⟩
    show ∀ k : Nat, k < 10 → (k : Int) < q_i m1 93 19 → ((2 ^ k : Nat) : Int) < y + 1 → q_w m1 107 1024 (2 ^ k) ≠ 0
    intro k k1 k2 k3
    rw [q_i_eq (hm 93 19 (fun q => absurd q.1 (by decide)))] at k2
    by_cases ek : 2 ^ k = j
    · rw [ek, q_w_at hj, ← e2]
      exact t1 k k1 k2 (by omega)
    · have h4 := y2 k k1 k2 (by omega)
      rw [q_w_up hj (fun i hi => hm 107 i (fun q => hi q.2))]
      simp only [if_neg ek]
      exact h4
  · have hup := fun hlen : j < 11264 => q_w_up (m := m) (m1 := m1) (c := 104) (n := 11264) (j := j) hlen (fun i hi => hm 104 i (fun q => hi q.2))
    have hN : q_i m1 93 19 = q_i m 93 19 := q_i_eq (hm 93 19 (fun q => absurd q.1 (by decide)))
    obtain ⟨u, hu, hf⟩ := List.mem_filterMap.mp ht
    split at hf
    · rename_i a k h1 h2
      split at hf
      rotate_left
      · cases hf
      rename_i hc
      have := Option.some.inj hf
      subst this
      obtain ⟨az, kz, a1, k1, t1⟩ := r_tok2 hE hu h2
      rw [h1] at t1
      obtain ⟨n, rfl, n2, n3, n4⟩ : ∃ n : Nat, az = n ∧ n < 1024 ∧ (∀ t, t < n → j_ok (q_w m 104 11264) t) ∧ ∀ k : Nat, (k : Int) < kz → k < 11 → q_w m 104 11264 (11 * n + k) = if n = 0 ∧ k = 0 then 1 else 0 := t1
      obtain ⟨c1, c2, c3, c4⟩ := hc
      have ej := b_eqv_ok hE c1 hx (r_11_ok a1 k1)
      have g10 := r_ge_ok hE c2 (b_is_c 10) k1
      have g0 := r_ge_ok hE c3 k1 (b_is_c 0)
      refine ⟨[(n : Int), kz + 1], ⟨a1, r_sft_ok (d := 1) k1, trivial⟩, ?_⟩
      show ∃ n' : Nat, (n : Int) = n' ∧ n' < 1024 ∧ (∀ t, t < n' → j_ok (q_w m1 104 11264) t) ∧ ∀ k : Nat, (k : Int) < kz + 1 → k < 11 → q_w m1 104 11264 (11 * n' + k) = if n' = 0 ∧ k = 0 then 1 else 0
      rw [hup (by omega)]
      refine ⟨n, rfl, n2, fun t ht => j_ok_congr (j_a2 (n := t) (by omega)).1 (fun k hk => (if_neg (by omega)).symm) (n3 t ht), fun k hk1 hk2 => ?_⟩
      show (if 11 * n + k = j then q_i m1 104 j else q_w m 104 11264 (11 * n + k)) = _
      by_cases ek : (k : Int) = kz
      · rw [if_pos (by omega : 11 * n + k = j)]
        rw [Bool.or_eq_true, Bool.and_eq_true, Bool.and_eq_true, Bool.and_eq_true, Bool.or_eq_true] at c4
        rcases c4 with ⟨d1, d2, d3⟩ | ⟨d1, d2⟩
        · have := b_eqv_ok hE d1 a1 (b_is_c 0)
          have := b_eqv_ok hE d2 k1 (b_is_c 0)
          have := b_eqv_ok hE d3 hw (b_is_c 1)
          rw [if_pos ⟨by omega, by omega⟩]
          exact this
        · have := b_eqv_ok hE d2 hw (b_is_c 0)
          rw [if_neg]
          · exact this
          · rintro ⟨f1, f2⟩
            rcases d1 with d1 | d1
            · have := r_ge_ok hE d1 a1 (b_is_c 1)
              omega
            · have := r_ge_ok hE d1 k1 (b_is_c 1)
              omega
      · rw [if_neg (by omega : ¬ 11 * n + k = j)]
        exact n4 k (by omega) hk2
    · rename_i a q r k h1 h2
      split at hf
      rotate_left
      · cases hf
      rename_i hc
      have := Option.some.inj hf
      subst this
      obtain ⟨az, qz, rz, kz, a1, q1, r1, k1, t1⟩ := r_tok4 hE hu h2
      rw [h1] at t1
      obtain ⟨n, p, e, rfl, rfl, rfl, rfl, e2, n2, p1, ck, hg, jt⟩ : ∃ n q e : Nat, az = n ∧ qz = q ∧ rz = ((n - q : Nat) : Int) ∧ kz = e ∧ e ≤ 10 ∧ n < 1024 ∧ 1 ≤ q ∧ j_ck n 1024 q = true ∧ g = 1024 * n + q ∧ j_at (q_w m 104 11264) n (j_sum (q_w m 104 11264) (11 * (n - q) + e) (10 - e) + j_rem n 1024 (j_nx n q)) (q ≤ 2 ^ j_fst n ∧ j_bits n ≤ e) := t1
      obtain ⟨c1, c2, c3⟩ := hc
      have ej := b_eqv_ok hE c1 hx (r_sft_ok (d := 1) (r_11_ok a1 k1))
      have g9 := r_ge_ok hE c2 (b_is_c 9) k1
      have hqn := j_a5 n2 p1 ck
      have ejn : j = 11 * n + (e + 1) := by omega
      obtain ⟨X, X1, X2⟩ := r_ym_ok hE c3 hx
      have hri : b_is v (r_11 r k) ((11 * (n - p) + e : Nat) : Int) := by
        have := r_11_ok r1 k1
        rw [show ((11 * (n - p) + e : Nat) : Int) = 11 * ((n - p : Nat) : Int) + (e : Int) by omega]
        exact this
      obtain ⟨Z, Z1, Z2⟩ := r_ym_ok hE X2 hri
      have ew := b_eqv_ok hE Z2 hw (b_is_ad (k := 1) X1 Z1)
      have hadd := j_add1 (W := q_w m 104 11264) n2 p1 ck (by omega) (by omega : e < 10) jt
      refine ⟨[(n : Int), (p : Int), ((n - p : Nat) : Int), (e : Int) + 1], ⟨a1, q1, r1, r_sft_ok (d := 1) k1, trivial⟩, ?_⟩
      refine ⟨n, p, e + 1, rfl, rfl, rfl, by omega, by omega, n2, p1, ck, hg, ?_⟩
      have hf2 : q_w m1 104 11264 = fun i => if i = 11 * n + (e + 1) then q_w m 104 11264 (11 * n + (e + 1)) + q_w m 104 11264 (11 * (n - p) + e) else q_w m 104 11264 i := by
        rw [hup (by omega), ejn]
        funext i
        have e1 : q_w m 104 11264 (11 * n + (e + 1)) = q_i m 104 (11 * n + (e + 1)) := q_w_at (by omega)
        have e2 : q_w m 104 11264 (11 * (n - p) + e) = q_i m 104 (11 * (n - p) + e) := q_w_at (by omega)
        rw [e1, e2]
        rw [ejn] at ew
        split
        · omega
        · rfl
      rw [hf2]
      exact hadd
    · cases hf
  · cases ht
end S6
end GH
end
section
/-! RULES OF THE JOININGS: tokens that hold by what is known -/
set_option maxRecDepth 100000 in
theorem j_t4 : (List.range 1024).all (fun n => (List.range 10).all (fun f => decide (n % 2 ^ f = 0 ∧ n / 2 ^ f % 2 = 1 → j_fst n = f))) = true := by decide +kernel
theorem j_a6 {n f : Nat} (hn : n < 1024) (hf : f < 10) (h1 : n % 2 ^ f = 0) (h2 : n / 2 ^ f % 2 = 1) : j_fst n = f := of_decide_eq_true (List.all_eq_true.mp (List.all_eq_true.mp j_t4 n (List.mem_range.mpr hn)) f (List.mem_range.mpr hf)) ⟨h1, h2⟩
theorem j_pw : ∀ k, k < 10 → ∀ p, p < 10 → 2 ^ k / 2 ^ p % 2 = if p = k then 1 else 0 := by decide
section GH
variable {g : Int} {K : r_K}
def r_h134 (E : b_E) (c : b_T) : Bool := r_ge E (b_c 0) c 0 || r_y1 E 134 (fun c0 => b_eqv E c (r_sft c0 1) && (r_ge E c0 (b_c 0) 0 && r_ym E 103 c0 (fun b => r_ym E 101 c0 (fun G => r_ge E (b_ad G 1 b) (b_c 1) 0) && r_ym E 102 c0 (fun Y => r_ge E Y b 0))))
def r_h144 (E : b_E) : Bool := match b_fm E 93 (b_c 19) with
  | some t => r_y1 E 134 (fun c => r_ge E c t 0)
  | none => false
def r_h139 (E : b_E) (f u b k : b_T) : Bool := (b_eqv E f (b_c (-1)) && (b_eqv E u (b_c 0) && (b_eqv E b (b_c 0) && r_ge E (b_c 0) k 0)))
  || r_y4 E 139 (fun f0 u0 b0 k0 => b_eqv E k (r_sft k0 1) && (r_ge E k0 (b_c 0) 0 && (r_ge E (b_c 9) k0 0 && r_y1 E 136 (fun st => r_bit E st k0 (fun r => (b_eqv E r (b_c 0) && (b_eqv E f f0 && (b_eqv E u u0 && b_eqv E b b0))) || (r_ge E r (b_c 1) 0 && (r_ge E f0 (b_c 0) 0 || (b_eqv E f k0 && r_ym E 103 k0 (fun B => b_eqv E u (r_sft (b_ad u0 (-1) B) 1) && b_eqv E b (b_ad b0 1 B))))))))))
def r_h137 (E : b_E) (r : b_T) : Bool := r_ge E r (b_c 1) 0 || r_y4 E 139 (fun f0 u0 b0 k0 => (r_ge E f0 (b_c 0) 0 && (r_ge E k0 (b_c 0) 0 && (r_ge E (b_c 9) k0 0 && r_y1 E 136 (fun st => r_bit E st k0 (fun r => r_ge E r (b_c 1) 0)))))
  || (r_has E 144 && (match b_fm E 93 (b_c 19) with
    | some t => r_ge E k0 t 0 && (r_ym E 101 f0 (fun G => r_ge E u0 G 1) || r_ym E 102 f0 (fun Y => r_ge E b0 Y 1))
    | none => false)))
def r_h154 (E : b_E) (a f : b_T) : Bool := r_ge E a (b_c 1) 0 && (r_ge E (b_c 1023) a 0 && (r_ge E (b_c 9) f 0 && (r_y2 E 902 (fun x k => b_eqv E x a && b_eqv E k f) && r_bit E a f (fun r => r_ge E r (b_c 1) 0))))
def r_h150 (E : b_E) (a : b_T) : Bool := r_ge E (b_c 0) a 0 || r_y2 E 152 (fun a0 q => b_eqv E a (r_sft a0 1) && r_ge E (b_c 0) q 0)
def r_h151 (E : b_E) (a k : b_T) : Bool := r_ge E (b_c 0) k 0 && (r_ge E a (b_c 0) 0 && (r_ge E (b_c 1023) a 0 && r_y1 E 150 (fun a0 => b_eqv E a0 a)))
def r_h153 (E : b_E) (a q : b_T) : Bool := r_ge E q (b_c 1) 0 && (r_y2 E 152 (fun a0 q0 => b_eqv E a0 a && b_eqv E q0 q) && r_y2 E 154 (fun a1 f => b_eqv E a1 a && (r_bit E q f (fun r => b_eqv E r (b_c 0)) || (r_ym E 107 q (fun u => b_eqv E u (b_c 0)) && r_y1 E 135 (fun c => r_ge E c a 1 && r_y1 E 905 (fun d => r_ge E d a 1))))))
def r_nx (E : b_E) (a q q0 : b_T) : Bool := r_y3 E 156 (fun z x y => b_eqv E z q && (b_eqv E x (r_sft q0 (-1)) && b_eqv E y a))
def r_h152 (E : b_E) (a q : b_T) : Bool := r_y2 E 151 (fun a0 k => b_eqv E a0 a && (b_eqv E q a && r_ge E k (b_c 11) 0)) || r_y2 E 153 (fun a0 q0 => b_eqv E a0 a && r_nx E a q q0) || r_y2 E 152 (fun a0 q0 => b_eqv E a0 a && (r_h153 E a0 q0 && r_nx E a q q0))
def r_h135 (E : b_E) (c : b_T) : Bool := r_ge E (b_c 1) c 0 || r_y1 E 135 (fun c0 => r_ge E c0 c 0)
def r_h140 (E : b_E) : Bool := match b_fm E 93 (b_c 20) with
  | some t => b_eqv E t (b_c (-1))
  | none => false
def r_h160 (E : b_E) (a q : b_T) : Bool := r_ge E q (b_c 0) 0 && r_y2 E 154 (fun a1 f => b_eqv E a1 a && r_bit E q f (fun r => r_ge E r (b_c 1) 0))
def r_h157 (E : b_E) (a q r k : b_T) : Bool := b_eqv E k (b_c 0) && (r_ge E q (b_c 1) 0 && (r_y2 E 158 (fun x y => b_eqv E x a && b_eqv E y q) && (r_y2 E 160 (fun x y => b_eqv E x a && b_eqv E y q) && (r_y2 E 152 (fun x y => b_eqv E x a && b_eqv E y q) && r_y3 E 156 (fun z x y => b_eqv E z r && (b_eqv E x a && b_eqv E y (b_ad (b_c (-1)) (-1) q)))))))
def r_h161 (E : b_E) : Bool := r_y4 E 157 (fun _ _ _ k => r_ge E k (b_c 10) 0)
def r_h130 (E : b_E) : Bool := r_y1 E 150 (fun a => r_y1 E 905 (fun d => r_ge E a d 0))
def r_z0 (E : b_E) (c : b_T) : Bool := r_full E (fun z => r_ym E 104 (r_sft (r_11 z c) (-11)) (fun u => b_eqv E u (b_c 0)))
def r_h131 (E : b_E) (c : b_T) : Bool := (r_ge E (b_c 0) c 0 && r_has E 130) || r_y1 E 131 (fun c0 => b_eqv E c (r_sft c0 1) && (r_ge E c0 (b_c 0) 0 && r_z0 E c0))
def r_h132 (E : b_E) (c : b_T) : Bool := (r_ge E c (b_c 10) 0 && r_has E 130) || r_y1 E 132 (fun c0 => b_eqv E c (r_sft c0 (-1)) && (r_ge E c0 (b_c 0) 0 && r_z0 E c0))
def r_h133 (E : b_E) (c w : b_T) : Bool := (b_eqv E c (b_c 0) && (b_eqv E w (b_c 0) && r_has E 130)) || r_y2 E 133 (fun c0 w0 => b_eqv E c (r_sft c0 1) && (r_ge E (b_c 10) c0 0 && (r_ge E c0 (b_c 0) 0 && r_full E (fun z => r_ym E 104 (r_sft (r_11 z c0) (-11)) (fun u => b_eqv E w (b_ad w0 1 u))))))
def r_hav6 (E : b_E) (id : Nat) (us : List b_T) : Bool := match id, us with
  | 134, [c] => r_h134 E c
  | 135, [c] => r_h135 E c
  | 140, [] => r_h140 E
  | 144, [] => r_h144 E
  | 139, [f, u, b, k] => r_h139 E f u b k
  | 137, [r] => r_h137 E r
  | 154, [a, f] => r_h154 E a f
  | 150, [a] => r_h150 E a
  | 151, [a, k] => r_h151 E a k
  | 152, [a, q] => r_h152 E a q
  | 153, [a, q] => r_h153 E a q
  | 160, [a, q] => r_h160 E a q
  | 157, [a, q, r, k] => r_h157 E a q r k
  | 161, [] => r_h161 E
  | 130, [] => r_h130 E
  | 131, [c] => r_h131 E c
  | 132, [c] => r_h132 E c
  | 133, [c, w] => r_h133 E c w
  | _, _ => false
section H6
variable {v : List Int} {E : b_E} {m : q_M}
theorem r_nat {t : b_T} {z : Int} (h : b_is v t z) (h0 : 0 ≤ z) : ∃ n : Nat, z = n ∧ b_is v t (n : Int) := ⟨z.toNat, by omega, by rw [Int.toNat_of_nonneg h0]; exact h⟩
theorem r_h134_ok (hE : bg_E (r_F K g) v E m) {c : b_T} {z : Int} (hc : b_is v c z) (h : r_h134 E c = true) : r_F K g 134 [z] m := by
  show ∀ i : Nat, (i : Int) < z → i < 10 → 1 ≤ q_w m 101 10 i + q_w m 103 10 i ∧ q_w m 103 10 i ≤ q_w m 102 10 i
  unfold r_h134 at h
  rw [Bool.or_eq_true] at h
  rcases h with h | h
  · have := r_ge_ok hE h (b_is_c 0) hc
    intro i hi
    omega
  · obtain ⟨c0, y, c1, t1, h1⟩ := r_y1_ok hE h
    have t1 : ∀ i : Nat, (i : Int) < y → i < 10 → 1 ≤ q_w m 101 10 i + q_w m 103 10 i ∧ q_w m 103 10 i ≤ q_w m 102 10 i := t1
    rw [Bool.and_eq_true, Bool.and_eq_true] at h1
    have e1 := b_eqv_ok hE h1.1 hc (r_sft_ok (d := 1) c1)
    have g0 := r_ge_ok hE h1.2.1 c1 (b_is_c 0)
    obtain ⟨n, rfl, c2⟩ := r_nat c1 (by omega)
    obtain ⟨b, b1, b2⟩ := r_ym_ok hE h1.2.2 c2
    rw [Bool.and_eq_true] at b2
    obtain ⟨G, G1, G2⟩ := r_ym_ok hE b2.1 c2
    obtain ⟨Y, Y1, Y2⟩ := r_ym_ok hE b2.2 c2
    have h3 := r_ge_ok hE G2 (b_is_ad (k := 1) G1 b1) (b_is_c 1)
    have h4 := r_ge_ok hE Y2 Y1 b1
    intro i i1 i2
    by_cases ei : i = n
    · subst ei
      rw [q_w_at i2, q_w_at i2, q_w_at i2]
      omega
    · exact t1 i (by omega) i2
theorem r_h144_ok (hE : bg_E (r_F K g) v E m) (h : r_h144 E = true) : r_F K g 144 [] m := by
  show ∀ i : Nat, (i : Int) < q_i m 93 19 → i < 10 → 1 ≤ q_w m 101 10 i + q_w m 103 10 i ∧ q_w m 103 10 i ≤ q_w m 102 10 i
  unfold r_h144 at h
  split at h
  rotate_left
  · cases h
  rename_i t ht
  have hT := r_cst hE (c := 93) (d := 19) ht
  obtain ⟨c, y, c1, t1, h1⟩ := r_y1_ok hE h
  have t1 : ∀ i : Nat, (i : Int) < y → i < 10 → 1 ≤ q_w m 101 10 i + q_w m 103 10 i ∧ q_w m 103 10 i ≤ q_w m 102 10 i := t1
  have := r_ge_ok hE h1 c1 hT
  exact fun i i1 i2 => t1 i (by omega) i2
theorem r_h139_ok (hE : bg_E (r_F K g) v E m) {f u b k : b_T} {fz uz bz kz : Int} (hf : b_is v f fz) (hu : b_is v u uz) (hb : b_is v b bz) (hk : b_is v k kz) (h : r_h139 E f u b k = true) : r_F K g 139 [fz, uz, bz, kz] m := by
  show ∀ k : Nat, k < 10 → (k : Int) < q_i m 93 19 → g = (2 ^ k : Nat) → (kz ≤ k → fz = -1 ∧ uz = 0 ∧ bz = 0) ∧ (k < kz → fz = k ∧ uz = 1 - q_w m 103 10 k ∧ bz = q_w m 103 10 k)
  unfold r_h139 at h
  rw [Bool.or_eq_true] at h
  intro p p1 p2 p3
  rcases h with h | h
  · rw [Bool.and_eq_true, Bool.and_eq_true, Bool.and_eq_true] at h
    have e1 := b_eqv_ok hE h.1 hf (b_is_c (-1))
    have e2 := b_eqv_ok hE h.2.1 hu (b_is_c 0)
    have e3 := b_eqv_ok hE h.2.2.1 hb (b_is_c 0)
    have e4 := r_ge_ok hE h.2.2.2 (b_is_c 0) hk
    exact ⟨fun _ => ⟨e1, e2, e3⟩, fun _ => by omega⟩
  · obtain ⟨f0, u0, b0, k0, f0z, u0z, b0z, k0z, f1, u1, b1, k1, t1, h1⟩ := r_y4_ok hE h
    have t1 : ∀ k : Nat, k < 10 → (k : Int) < q_i m 93 19 → g = (2 ^ k : Nat) → (k0z ≤ k → f0z = -1 ∧ u0z = 0 ∧ b0z = 0) ∧ (k < k0z → f0z = k ∧ u0z = 1 - q_w m 103 10 k ∧ b0z = q_w m 103 10 k) := t1
    obtain ⟨q1, q2⟩ := t1 p p1 p2 p3
    rw [Bool.and_eq_true, Bool.and_eq_true, Bool.and_eq_true] at h1
    have e1 := b_eqv_ok hE h1.1 hk (r_sft_ok (d := 1) k1)
    have g0 := r_ge_ok hE h1.2.1 k1 (b_is_c 0)
    have g9 := r_ge_ok hE h1.2.2.1 (b_is_c 9) k1
    obtain ⟨n, rfl, k2⟩ := r_nat k1 (by omega)
    obtain ⟨st, sz, s1, t2, h2⟩ := r_y1_ok hE h1.2.2.2
    have t2 : sz = g := t2
    rw [t2, p3] at s1
    obtain ⟨r, r1, r2⟩ := r_bit_ok hE h2 s1 k2 (by omega)
    rw [j_pw p p1 n (by omega)] at r1
    rw [Bool.or_eq_true] at r2
    rcases r2 with r2 | r2
    · rw [Bool.and_eq_true, Bool.and_eq_true, Bool.and_eq_true] at r2
      obtain ⟨d1, d2, d3⟩ := r2
      have a1 := b_eqv_ok hE d1 r1 (b_is_c 0)
      have a2 := b_eqv_ok hE d2 hf f1
      have a3 := b_eqv_ok hE d3.1 hu u1
      have a4 := b_eqv_ok hE d3.2 hb b1
      have hne : n ≠ p := fun e => by
        rw [if_pos e] at a1
        simp at a1
      rw [a2, a3, a4]
      exact ⟨fun z => q1 (by omega), fun z => q2 (by omega)⟩
    · rw [Bool.and_eq_true] at r2
      obtain ⟨d1, d2⟩ := r2
      have a1 := r_ge_ok hE d1 r1 (b_is_c 1)
      have hnp : n = p := by
        by_cases e : n = p
        · exact e
        · rw [if_neg e] at a1
          simp at a1
      subst hnp
      obtain ⟨i1, i2, i3⟩ := q1 (Int.le_refl _)
      rw [Bool.or_eq_true] at d2
      rcases d2 with d2 | d2
      · have := r_ge_ok hE d2 f1 (b_is_c 0)
        omega
      · rw [Bool.and_eq_true] at d2
        have a2 := b_eqv_ok hE d2.1 hf k1
        obtain ⟨B, B1, B2⟩ := r_ym_ok hE d2.2 k2
        rw [Bool.and_eq_true] at B2
        have a3 := b_eqv_ok hE B2.1 hu (r_sft_ok (d := 1) (b_is_ad (k := -1) u1 B1))
        have a4 := b_eqv_ok hE B2.2 hb (b_is_ad (k := 1) b1 B1)
        rw [q_w_at p1]
        exact ⟨fun z => by omega, fun _ => ⟨a2, by omega, by omega⟩⟩
theorem r_h137_ok (hE : bg_E (r_F K g) v E m) {r : b_T} {z : Int} (hr : b_is v r z) (h : r_h137 E r = true) : r_F K g 137 [z] m := by
  show ∀ k : Nat, k < 10 → (k : Int) < q_i m 93 19 → g = (2 ^ k : Nat) → z ≠ 0
  unfold r_h137 at h
  rw [Bool.or_eq_true] at h
  intro p p1 p2 p3
  rcases h with h | h
  · have := r_ge_ok hE h hr (b_is_c 1)
    omega
  · exfalso
    obtain ⟨f0, u0, b0, k0, f0z, u0z, b0z, k0z, f1, u1, b1, k1, t1, h1⟩ := r_y4_ok hE h
    have t1 : ∀ k : Nat, k < 10 → (k : Int) < q_i m 93 19 → g = (2 ^ k : Nat) → (k0z ≤ k → f0z = -1 ∧ u0z = 0 ∧ b0z = 0) ∧ (k < k0z → f0z = k ∧ u0z = 1 - q_w m 103 10 k ∧ b0z = q_w m 103 10 k) := t1
    obtain ⟨q1, q2⟩ := t1 p p1 p2 p3
    rw [Bool.or_eq_true] at h1
    rcases h1 with h1 | h1
    · rw [Bool.and_eq_true, Bool.and_eq_true, Bool.and_eq_true] at h1
      have gf := r_ge_ok hE h1.1 f1 (b_is_c 0)
      have g0 := r_ge_ok hE h1.2.1 k1 (b_is_c 0)
      have g9 := r_ge_ok hE h1.2.2.1 (b_is_c 9) k1
      obtain ⟨n, rfl, k2⟩ := r_nat k1 (by omega)
      obtain ⟨st, sz, s1, t2, h2⟩ := r_y1_ok hE h1.2.2.2
      have t2 : sz = g := t2
      rw [t2, p3] at s1
      obtain ⟨r, r1, r2⟩ := r_bit_ok hE h2 s1 k2 (by omega)
      rw [j_pw p p1 n (by omega)] at r1
      have a1 := r_ge_ok hE r2 r1 (b_is_c 1)
      have hnp : n = p := by
        by_cases e : n = p
        · exact e
        · rw [if_neg e] at a1
          simp at a1
      subst hnp
      have := (q1 (Int.le_refl _)).1
      omega
    · rw [Bool.and_eq_true] at h1
      have h4 : ∀ i : Nat, (i : Int) < q_i m 93 19 → i < 10 → 1 ≤ q_w m 101 10 i + q_w m 103 10 i ∧ q_w m 103 10 i ≤ q_w m 102 10 i := r_has_ok hE h1.1
      have h2 := h1.2
      split at h2
      rotate_left
      · cases h2
      rename_i t ht
      have hT := r_cst hE (c := 93) (d := 19) ht
      rw [Bool.and_eq_true, Bool.or_eq_true] at h2
      have e1 := r_ge_ok hE h2.1 k1 hT
      obtain ⟨i1, i2, i3⟩ := q2 (by omega)
      obtain ⟨d1, d2⟩ := h4 p p2 p1
      rw [q_w_at p1] at i2 i3
      rw [q_w_at p1, q_w_at p1] at d1
      rw [q_w_at p1, q_w_at p1] at d2
      rw [i1] at f1
      rcases h2.2 with h3 | h3
      · obtain ⟨G, G1, G2⟩ := r_ym_ok hE h3 f1
        have := r_ge_ok hE G2 u1 G1
        omega
      · obtain ⟨Y, Y1, Y2⟩ := r_ym_ok hE h3 f1
        have := r_ge_ok hE Y2 b1 Y1
        omega
theorem r_h154_ok (hE : bg_E (r_F K g) v E m) {a f : b_T} {az fz : Int} (ha : b_is v a az) (hf : b_is v f fz) (h : r_h154 E a f = true) : r_F K g 154 [az, fz] m := by
  show ∃ n : Nat, az = n ∧ 1 ≤ n ∧ n < 1024 ∧ fz = j_fst n
  unfold r_h154 at h
  rw [Bool.and_eq_true, Bool.and_eq_true, Bool.and_eq_true, Bool.and_eq_true] at h
  have g1 := r_ge_ok hE h.1 ha (b_is_c 1)
  have g2 := r_ge_ok hE h.2.1 (b_is_c 1023) ha
  have g9 := r_ge_ok hE h.2.2.1 (b_is_c 9) hf
  obtain ⟨x, k, xz, kz, x1, k1, t1, h1⟩ := r_y2_ok hE h.2.2.2.1
  obtain ⟨n9, n1, n2, n3, n4⟩ : ∃ n : Nat, kz = n ∧ n ≤ 31 ∧ 0 ≤ xz ∧ xz % 2 ^ n = 0 := t1
  rw [Bool.and_eq_true] at h1
  have e1 := b_eqv_ok hE h1.1 x1 ha
  have e2 := b_eqv_ok hE h1.2 k1 hf
  obtain ⟨n, rfl, ha2⟩ := r_nat ha (by omega)
  have ef : fz = n9 := by omega
  subst ef
  obtain ⟨r, r1, r2⟩ := r_bit_ok hE h.2.2.2.2 ha2 hf (by omega)
  have g3 := r_ge_ok hE r2 r1 (b_is_c 1)
  refine ⟨n, rfl, by omega, by omega, ?_⟩
  rw [e1] at n4
  have n5 : n % 2 ^ n9 = 0 := by exact_mod_cast n4
  rw [j_a6 (by omega) (by omega) n5 (by omega)]
theorem r_h150_ok (hE : bg_E (r_F K g) v E m) {a : b_T} {az : Int} (ha : b_is v a az) (h : r_h150 E a = true) : r_F K g 150 [az] m := by
  show ∀ t : Nat, (t : Int) < az → t < 1024 → j_ok (q_w m 104 11264) t
  unfold r_h150 at h
  rw [Bool.or_eq_true] at h
  rcases h with h | h
  · have := r_ge_ok hE h (b_is_c 0) ha
    intro t h1
    omega
  · obtain ⟨a0, q, a0z, qz, a1, q1, t1, h1⟩ := r_y2_ok hE h
    obtain ⟨n, p, rfl, rfl, n2, ck, jt⟩ : ∃ n q : Nat, a0z = n ∧ qz = q ∧ n < 1024 ∧ j_ck n 1024 q = true ∧ j_at (q_w m 104 11264) n (j_rem n 1024 q) (q < 2 ^ j_fst n) := t1
    rw [Bool.and_eq_true] at h1
    have e1 := b_eqv_ok hE h1.1 ha (r_sft_ok (d := 1) a1)
    have e2 := r_ge_ok hE h1.2 (b_is_c 0) q1
    have hp : p = 0 := by omega
    subst hp
    intro t t1 t2
    by_cases et : t = n
    · subst et
      exact j_done (by omega) (Nat.pow_pos (by omega)) jt
    · exact jt.1 t (by omega)
theorem r_h151_ok (hE : bg_E (r_F K g) v E m) {a k : b_T} {az kz : Int} (ha : b_is v a az) (hk : b_is v k kz) (h : r_h151 E a k = true) : r_F K g 151 [az, kz] m := by
  show ∃ n : Nat, az = n ∧ n < 1024 ∧ (∀ t, t < n → j_ok (q_w m 104 11264) t) ∧ ∀ k : Nat, (k : Int) < kz → k < 11 → q_w m 104 11264 (11 * n + k) = if n = 0 ∧ k = 0 then 1 else 0
  unfold r_h151 at h
  rw [Bool.and_eq_true, Bool.and_eq_true, Bool.and_eq_true] at h
  have g1 := r_ge_ok hE h.1 (b_is_c 0) hk
  have g2 := r_ge_ok hE h.2.1 ha (b_is_c 0)
  have g3 := r_ge_ok hE h.2.2.1 (b_is_c 1023) ha
  obtain ⟨a0, a0z, a1, t1, h1⟩ := r_y1_ok hE h.2.2.2
  have t1 : ∀ t : Nat, (t : Int) < a0z → t < 1024 → j_ok (q_w m 104 11264) t := t1
  have e1 := b_eqv_ok hE h1 a1 ha
  exact ⟨az.toNat, by omega, by omega, fun t ht => t1 t (by omega) (by omega), fun k k1 _ => by omega⟩
theorem r_h153_ok (hE : bg_E (r_F K g) v E m) {a q : b_T} {az qz : Int} (ha : b_is v a az) (hq : b_is v q qz) (h : r_h153 E a q = true) : r_F K g 153 [az, qz] m := by
  show ∃ n q : Nat, az = n ∧ qz = q ∧ n < 1024 ∧ 1 ≤ q ∧ j_ck n 1024 q = true ∧ j_at (q_w m 104 11264) n (j_rem n 1024 (j_nx n q)) (j_nx n q < 2 ^ j_fst n)
  unfold r_h153 at h
  rw [Bool.and_eq_true, Bool.and_eq_true] at h
  have g1 := r_ge_ok hE h.1 hq (b_is_c 1)
  obtain ⟨a0, q0, a0z, q0z, a1, q1, t1, h1⟩ := r_y2_ok hE h.2.1
  obtain ⟨n, p, rfl, rfl, n2, ck, jt⟩ : ∃ n q : Nat, a0z = n ∧ q0z = q ∧ n < 1024 ∧ j_ck n 1024 q = true ∧ j_at (q_w m 104 11264) n (j_rem n 1024 q) (q < 2 ^ j_fst n) := t1
  rw [Bool.and_eq_true] at h1
  have e1 := b_eqv_ok hE h1.1 a1 ha
  have e2 := b_eqv_ok hE h1.2 q1 hq
  obtain ⟨b1, f, b1z, fz, b2, f1, t2, h2⟩ := r_y2_ok hE h.2.2
  obtain ⟨n', rfl, n1', n2', rfl⟩ : ∃ n : Nat, b1z = n ∧ 1 ≤ n ∧ n < 1024 ∧ fz = j_fst n := t2
  rw [Bool.and_eq_true, Bool.or_eq_true] at h2
  have e3 := b_eqv_ok hE h2.1 b2 ha
  have en : n' = n := by omega
  subst en
  have hqn := j_a5 n2 (by omega : 1 ≤ p) ck
  have hf10 := (j_a2 n2).2.1
  refine ⟨n', p, by omega, by omega, n2, by omega, ck, j_skip n2 (by omega) (by omega) ck ?_ jt⟩
  intro hpe
  rcases h2.2 with h3 | h3
  · obtain ⟨r, r1, r2⟩ := r_bit_ok hE h3 (by rw [e2]; exact hq : b_is v q (p : Int)) f1 (by omega)
    have := b_eqv_ok hE r2 r1 (b_is_c 0)
    rw [hpe, Nat.div_self (Nat.pow_pos (by omega))] at this
    simp at this
  · rw [Bool.and_eq_true] at h3
    obtain ⟨u, u1, u2⟩ := r_ym_ok hE h3.1 (by rw [e2]; exact hq : b_is v q (p : Int))
    have hu := b_eqv_ok hE u2 u1 (b_is_c 0)
    obtain ⟨c, cz, c1, t3, h4⟩ := r_y1_ok hE h3.2
    have t3 : ∀ k : Nat, k < 10 → (k : Int) < q_i m 93 19 → ((2 ^ k : Nat) : Int) < cz → q_w m 107 1024 (2 ^ k) ≠ 0 := t3
    rw [Bool.and_eq_true] at h4
    have g2 := r_ge_ok hE h4.1 c1 ha
    obtain ⟨d, dz, d1, t4, h5⟩ := r_y1_ok hE h4.2
    obtain ⟨N, N1, N2, N3⟩ : ∃ n : Nat, q_i m 93 19 = n ∧ n ≤ 10 ∧ dz = 2 ^ n := t4
    have g3 := r_ge_ok hE h5 d1 ha
    have hlt : j_fst n' < N := by
      have h6 : ((2 ^ j_fst n' : Nat) : Int) < ((2 ^ N : Nat) : Int) := by
        have : dz = ((2 ^ N : Nat) : Int) := by rw [N3]; simp
        omega
      have h6 : 2 ^ j_fst n' < 2 ^ N := by omega
      exact (Nat.pow_lt_pow_iff_right (by omega)).mp h6
    have := t3 (j_fst n') hf10 (by omega) (by omega)
    rw [← hpe, q_w_at (by omega)] at this
    exact this hu
theorem r_nx_ok (hE : bg_E (r_F K g) v E m) {a q a0 q0 : b_T} {az qz a0z q0z : Int} (ha : b_is v a az) (hq : b_is v q qz) (a1 : b_is v a0 a0z) (q1 : b_is v q0 q0z) (e1 : a0z = az) (h1 : r_nx E a q q0 = true) (t1 : r_F K g 153 [a0z, q0z] m) : r_F K g 152 [az, qz] m := by
  show ∃ n q : Nat, az = n ∧ qz = q ∧ n < 1024 ∧ j_ck n 1024 q = true ∧ j_at (q_w m 104 11264) n (j_rem n 1024 q) (q < 2 ^ j_fst n)
  unfold r_nx at h1
  obtain ⟨n, p, rfl, rfl, n2, p1, ck, jt⟩ : ∃ n q : Nat, a0z = n ∧ q0z = q ∧ n < 1024 ∧ 1 ≤ q ∧ j_ck n 1024 q = true ∧ j_at (q_w m 104 11264) n (j_rem n 1024 (j_nx n q)) (j_nx n q < 2 ^ j_fst n) := t1
  obtain ⟨z, x, y, zz, xz, yz, z1, x1, y1, t2, h2⟩ := r_y3_ok hE h1
  obtain ⟨A, B, A1, B1, AB⟩ : ∃ a b : Int32, a.toInt = xz ∧ b.toInt = yz ∧ (a &&& b).toInt = zz := t2
  rw [Bool.and_eq_true, Bool.and_eq_true] at h2
  have e2 := b_eqv_ok hE h2.1 z1 hq
  have e3 := b_eqv_ok hE h2.2.1 x1 (r_sft_ok (d := -1) q1)
  have e4 := b_eqv_ok hE h2.2.2 y1 ha
  have hqn := j_a5 n2 p1 ck
  obtain ⟨-, -, -, -, a5, a6⟩ := j_a4 n2 p1 (by omega) ck
  have eA : A = Int32.ofInt ((p : Int) - 1) := by
    rw [← Int32.ofInt_toInt A, A1, e3]
    rfl
  have eB : B = Int32.ofNat n := by
    rw [← Int32.ofInt_toInt B, B1, e4, ← e1]
    rfl
  rw [eA, eB, a5] at AB
  exact ⟨n, j_nx n p, by omega, by omega, n2, a6, jt⟩
theorem r_h152_ok (hE : bg_E (r_F K g) v E m) {a q : b_T} {az qz : Int} (ha : b_is v a az) (hq : b_is v q qz) (h : r_h152 E a q = true) : r_F K g 152 [az, qz] m := by
  show ∃ n q : Nat, az = n ∧ qz = q ∧ n < 1024 ∧ j_ck n 1024 q = true ∧ j_at (q_w m 104 11264) n (j_rem n 1024 q) (q < 2 ^ j_fst n)
  unfold r_h152 at h
  rw [Bool.or_eq_true, Bool.or_eq_true] at h
  rcases h with (h | h) | h
  · obtain ⟨a0, k, a0z, kz, a1, k1, t1, h1⟩ := r_y2_ok hE h
    obtain ⟨n, rfl, n2, n3, n4⟩ : ∃ n : Nat, a0z = n ∧ n < 1024 ∧ (∀ t, t < n → j_ok (q_w m 104 11264) t) ∧ ∀ k : Nat, (k : Int) < kz → k < 11 → q_w m 104 11264 (11 * n + k) = if n = 0 ∧ k = 0 then 1 else 0 := t1
    rw [Bool.and_eq_true, Bool.and_eq_true] at h1
    have e1 := b_eqv_ok hE h1.1 a1 ha
    have e2 := b_eqv_ok hE h1.2.1 hq ha
    have e3 := r_ge_ok hE h1.2.2 k1 (b_is_c 11)
    exact ⟨n, n, by omega, by omega, n2, j_a3 n2, j_begin n2 n3 (fun k hk => n4 k (by omega) hk)⟩
  · obtain ⟨a0, q0, a0z, q0z, a1, q1, t1, h1⟩ := r_y2_ok hE h
    rw [Bool.and_eq_true] at h1
    exact r_nx_ok hE ha hq a1 q1 (b_eqv_ok hE h1.1 a1 ha) h1.2 t1
  · obtain ⟨a0, q0, a0z, q0z, a1, q1, t1, h1⟩ := r_y2_ok hE h
    rw [Bool.and_eq_true, Bool.and_eq_true] at h1
    exact r_nx_ok hE ha hq a1 q1 (b_eqv_ok hE h1.1 a1 ha) h1.2.2 (r_h153_ok hE a1 q1 h1.2.1)
theorem r_h135_ok (hE : bg_E (r_F K g) v E m) {c : b_T} {cz : Int} (hc : b_is v c cz) (h : r_h135 E c = true) : r_F K g 135 [cz] m := by
  show ∀ k : Nat, k < 10 → (k : Int) < q_i m 93 19 → ((2 ^ k : Nat) : Int) < cz → q_w m 107 1024 (2 ^ k) ≠ 0
  unfold r_h135 at h
  rw [Bool.or_eq_true] at h
  rcases h with h | h
  · have h1 := r_ge_ok hE h (b_is_c 1) hc
    intro k _ _ h2
    have h3 : 1 ≤ 2 ^ k := Nat.one_le_two_pow
    omega
  · obtain ⟨a, az, a1, t1, h1⟩ := r_y1_ok hE h
    have t1 : ∀ k : Nat, k < 10 → (k : Int) < q_i m 93 19 → ((2 ^ k : Nat) : Int) < az → q_w m 107 1024 (2 ^ k) ≠ 0 := t1
    have h2 := r_ge_ok hE h1 a1 hc
    exact fun k k1 k2 k3 => t1 k k1 k2 (by omega)
theorem r_h140_ok (hE : bg_E (r_F K g) v E m) (h : r_h140 E = true) : r_F K g 140 [] m := by
  show q_i m 93 20 = -1
  unfold r_h140 at h
  split at h
  rotate_left
  · cases h
  rename_i t ht
  exact b_eqv_ok hE h (r_cst hE (c := 93) (d := 20) ht) (b_is_c (-1))
theorem r_h160_ok (hE : bg_E (r_F K g) v E m) {a q : b_T} {az qz : Int} (ha : b_is v a az) (hq : b_is v q qz) (h : r_h160 E a q = true) : r_F K g 160 [az, qz] m := by
  show ∃ n q : Nat, az = n ∧ qz = q ∧ q / 2 ^ j_fst n % 2 = 1
  unfold r_h160 at h
  rw [Bool.and_eq_true] at h
  have g1 := r_ge_ok hE h.1 hq (b_is_c 0)
  obtain ⟨b1, f, b1z, fz, b2, f1, t2, h2⟩ := r_y2_ok hE h.2
  obtain ⟨n, rfl, n1, n2, rfl⟩ : ∃ n : Nat, b1z = n ∧ 1 ≤ n ∧ n < 1024 ∧ fz = j_fst n := t2
  rw [Bool.and_eq_true] at h2
  have e3 := b_eqv_ok hE h2.1 b2 ha
  obtain ⟨p, rfl, hq2⟩ := r_nat hq (by omega)
  have hf10 := (j_a2 n2).2.1
  obtain ⟨r, r1, r2⟩ := r_bit_ok hE h2.2 hq2 f1 (by omega)
  have := r_ge_ok hE r2 r1 (b_is_c 1)
  exact ⟨n, p, by omega, rfl, by omega⟩
theorem r_h157_ok (hE : bg_E (r_F K g) v E m) {a q r k : b_T} {az qz rz kz : Int} (ha : b_is v a az) (hq : b_is v q qz) (hr : b_is v r rz) (hk : b_is v k kz) (h : r_h157 E a q r k = true) : r_F K g 157 [az, qz, rz, kz] m := by
  show ∃ n q e : Nat, az = n ∧ qz = q ∧ rz = ((n - q : Nat) : Int) ∧ kz = e ∧ e ≤ 10 ∧ n < 1024 ∧ 1 ≤ q ∧ j_ck n 1024 q = true ∧ g = 1024 * n + q ∧ j_at (q_w m 104 11264) n (j_sum (q_w m 104 11264) (11 * (n - q) + e) (10 - e) + j_rem n 1024 (j_nx n q)) (q ≤ 2 ^ j_fst n ∧ j_bits n ≤ e)
  unfold r_h157 at h
  rw [Bool.and_eq_true, Bool.and_eq_true, Bool.and_eq_true, Bool.and_eq_true, Bool.and_eq_true] at h
  obtain ⟨c1, c2, c3, c4, c5, c6⟩ := h
  have ek := b_eqv_ok hE c1 hk (b_is_c 0)
  have g1 := r_ge_ok hE c2 hq (b_is_c 1)
  obtain ⟨x, y, xz, yz, x1, y1, t1, h1⟩ := r_y2_ok hE c5
  obtain ⟨n, p, rfl, rfl, n2, ck, jt⟩ : ∃ n q : Nat, xz = n ∧ yz = q ∧ n < 1024 ∧ j_ck n 1024 q = true ∧ j_at (q_w m 104 11264) n (j_rem n 1024 q) (q < 2 ^ j_fst n) := t1
  rw [Bool.and_eq_true] at h1
  have e1 := b_eqv_ok hE h1.1 x1 ha
  have e2 := b_eqv_ok hE h1.2 y1 hq
  obtain ⟨x', y', xz', yz', x1', y1', t2, h2⟩ := r_y2_ok hE c3
  obtain ⟨n', p', rfl, rfl, p2', hg⟩ : ∃ n q : Nat, xz' = n ∧ yz' = q ∧ q < 1024 ∧ g = 1024 * n + q := t2
  rw [Bool.and_eq_true] at h2
  have e1' := b_eqv_ok hE h2.1 x1' ha
  have e2' := b_eqv_ok hE h2.2 y1' hq
  obtain ⟨x'', y'', xz'', yz'', x1'', y1'', t3, h3⟩ := r_y2_ok hE c4
  obtain ⟨n'', p'', rfl, rfl, hb⟩ : ∃ n q : Nat, xz'' = n ∧ yz'' = q ∧ q / 2 ^ j_fst n % 2 = 1 := t3
  rw [Bool.and_eq_true] at h3
  have e1'' := b_eqv_ok hE h3.1 x1'' ha
  have e2'' := b_eqv_ok hE h3.2 y1'' hq
  have en : n'' = n := by omega
  have ep : p'' = p := by omega
  subst en
  subst ep
  obtain ⟨z, s, t, zz, sz, tz, z1, s1, u1, t4, h4⟩ := r_y3_ok hE c6
  obtain ⟨A, B, A1, B1, AB⟩ : ∃ a b : Int32, a.toInt = sz ∧ b.toInt = tz ∧ (a &&& b).toInt = zz := t4
  rw [Bool.and_eq_true, Bool.and_eq_true] at h4
  have f1 := b_eqv_ok hE h4.1 z1 hr
  have f2 := b_eqv_ok hE h4.2.1 s1 ha
  have f3 := b_eqv_ok hE h4.2.2 u1 (b_is_ad (k := -1) (b_is_c (-1)) hq)
  have hqn := j_a5 n2 (by omega : 1 ≤ p'') ck
  obtain ⟨-, -, -, a4, -, -⟩ := j_a4 n2 (by omega : 1 ≤ p'') (by omega) ck
  have eA : A = Int32.ofNat n'' := by
    rw [← Int32.ofInt_toInt A, A1, f2, ← e1]
    rfl
  have eB : B = Int32.ofInt (-1 - (p'' : Int)) := by
    rw [← Int32.ofInt_toInt B, B1, f3, ← e2]
    congr 1
    omega
  rw [eA, eB, a4] at AB
  exact ⟨n'', p'', 0, by omega, by omega, by omega, by omega, by omega, n2, by omega, ck, by omega, j_add0 n2 (by omega) ck (by omega) hb jt⟩
theorem r_h161_ok (hE : bg_E (r_F K g) v E m) (h : r_h161 E = true) : r_F K g 161 [] m := by
  show ∃ n q : Nat, g = 1024 * n + q ∧ q < 1024 ∧ n < 1024 ∧ 1 ≤ q ∧ j_ck n 1024 q = true ∧ j_at (q_w m 104 11264) n (j_rem n 1024 (j_nx n q)) (j_nx n q < 2 ^ j_fst n)
  unfold r_h161 at h
  obtain ⟨s, o, r, k, sz, oz, rz, kz, s1, o1, r1, k1, t1, h1⟩ := r_y4_ok hE h
  obtain ⟨n, q, e, rfl, rfl, rfl, rfl, e2, n2, q1, ck, hg, jt⟩ : ∃ n q e : Nat, sz = n ∧ oz = q ∧ rz = ((n - q : Nat) : Int) ∧ kz = e ∧ e ≤ 10 ∧ n < 1024 ∧ 1 ≤ q ∧ j_ck n 1024 q = true ∧ g = 1024 * n + q ∧ j_at (q_w m 104 11264) n (j_sum (q_w m 104 11264) (11 * (n - q) + e) (10 - e) + j_rem n 1024 (j_nx n q)) (q ≤ 2 ^ j_fst n ∧ j_bits n ≤ e) := t1
  have := r_ge_ok hE h1 k1 (b_is_c 10)
  have ee : e = 10 := by omega
  subst ee
  have hqn := j_a5 n2 q1 ck
  exact ⟨n, q, hg, by omega, n2, q1, ck, j_add2 n2 q1 (by omega) ck jt⟩
theorem r_h130_ok (hE : bg_E (r_F K g) v E m) (h : r_h130 E = true) : r_F K g 130 [] m := by
  show ∃ n : Nat, q_i m 93 19 = n ∧ n ≤ 10 ∧ j_ok (q_w m 104 11264) (2 ^ n - 1)
  unfold r_h130 at h
  obtain ⟨a, az, a1, t1, h1⟩ := r_y1_ok hE h
  have t1 : ∀ t : Nat, (t : Int) < az → t < 1024 → j_ok (q_w m 104 11264) t := t1
  obtain ⟨d, dz, d1, t4, h5⟩ := r_y1_ok hE h1
  obtain ⟨N, N1, N2, N3⟩ : ∃ n : Nat, q_i m 93 19 = n ∧ n ≤ 10 ∧ dz = 2 ^ n := t4
  have e := r_ge_ok hE h5 a1 d1
  have hp := r_p10 N2
  have hp1 : 1 ≤ 2 ^ N := Nat.one_le_two_pow
  have hd : dz = ((2 ^ N : Nat) : Int) := by rw [N3]; simp
  exact ⟨N, N1, N2, t1 (2 ^ N - 1) (by omega) (by omega)⟩
theorem r_z0_ok (hE : bg_E (r_F K g) v E m) {c : b_T} {k n : Nat} (hc : b_is v c (k : Int)) (hk : k < 11) (n1 : q_i m 93 19 = n) (n2 : n ≤ 10) (h : r_z0 E c = true) : q_w m 104 11264 (11 * (2 ^ n - 1) + k) = 0 := by
  obtain ⟨z, z1, z2⟩ := r_full_ok hE h n1 n2
  obtain ⟨u, u1, u2⟩ := r_ym_ok hE z2 (r_idx z1 hc)
  have := b_eqv_ok hE u2 u1 (b_is_c 0)
  have hp := r_p10 n2
  rw [q_w_at (by omega)]
  exact this
theorem r_h131_ok (hE : bg_E (r_F K g) v E m) {c : b_T} {cz : Int} (hc : b_is v c cz) (h : r_h131 E c = true) : r_F K g 131 [cz] m := by
  show ∃ n : Nat, q_i m 93 19 = n ∧ n ≤ 10 ∧ ∃ k : Nat, k < 11 ∧ cz ≤ k ∧ q_w m 104 11264 (11 * (2 ^ n - 1) + k) ≠ 0
  unfold r_h131 at h
  rw [Bool.or_eq_true] at h
  rcases h with h | h
  · rw [Bool.and_eq_true] at h
    have := r_ge_ok hE h.1 (b_is_c 0) hc
    obtain ⟨n, n1, n2, n3⟩ : ∃ n : Nat, q_i m 93 19 = n ∧ n ≤ 10 ∧ j_ok (q_w m 104 11264) (2 ^ n - 1) := r_has_ok hE h.2
    have hb := (j_a2 (n := 2 ^ n - 1) (by have := r_p10 n2; omega)).1
    have := n3.2.2
    exact ⟨n, n1, n2, j_bits (2 ^ n - 1), by omega, by omega, by omega⟩
  · obtain ⟨c0, y, c1, t1, h1⟩ := r_y1_ok hE h
    obtain ⟨n, n1, n2, k, k1, k2, k3⟩ : ∃ n : Nat, q_i m 93 19 = n ∧ n ≤ 10 ∧ ∃ k : Nat, k < 11 ∧ y ≤ k ∧ q_w m 104 11264 (11 * (2 ^ n - 1) + k) ≠ 0 := t1
    rw [Bool.and_eq_true, Bool.and_eq_true] at h1
    have e1 := b_eqv_ok hE h1.1 hc (r_sft_ok (d := 1) c1)
    have g0 := r_ge_ok hE h1.2.1 c1 (b_is_c 0)
    obtain ⟨p, rfl, c2⟩ := r_nat c1 (by omega)
    refine ⟨n, n1, n2, k, k1, ?_, k3⟩
    by_cases e : k = p
    · subst e
      exact absurd (r_z0_ok hE c2 k1 n1 n2 h1.2.2) k3
    · omega
theorem r_h132_ok (hE : bg_E (r_F K g) v E m) {c : b_T} {cz : Int} (hc : b_is v c cz) (h : r_h132 E c = true) : r_F K g 132 [cz] m := by
  show ∃ n : Nat, q_i m 93 19 = n ∧ n ≤ 10 ∧ ∃ k : Nat, k < 11 ∧ k ≤ cz ∧ q_w m 104 11264 (11 * (2 ^ n - 1) + k) ≠ 0
  unfold r_h132 at h
  rw [Bool.or_eq_true] at h
  rcases h with h | h
  · rw [Bool.and_eq_true] at h
    have := r_ge_ok hE h.1 hc (b_is_c 10)
    obtain ⟨n, n1, n2, n3⟩ : ∃ n : Nat, q_i m 93 19 = n ∧ n ≤ 10 ∧ j_ok (q_w m 104 11264) (2 ^ n - 1) := r_has_ok hE h.2
    have hb := (j_a2 (n := 2 ^ n - 1) (by have := r_p10 n2; omega)).1
    have := n3.2.2
    exact ⟨n, n1, n2, j_bits (2 ^ n - 1), by omega, by omega, by omega⟩
  · obtain ⟨c0, y, c1, t1, h1⟩ := r_y1_ok hE h
    obtain ⟨n, n1, n2, k, k1, k2, k3⟩ : ∃ n : Nat, q_i m 93 19 = n ∧ n ≤ 10 ∧ ∃ k : Nat, k < 11 ∧ k ≤ y ∧ q_w m 104 11264 (11 * (2 ^ n - 1) + k) ≠ 0 := t1
    rw [Bool.and_eq_true, Bool.and_eq_true] at h1
    have e1 := b_eqv_ok hE h1.1 hc (r_sft_ok (d := -1) c1)
    have g0 := r_ge_ok hE h1.2.1 c1 (b_is_c 0)
    obtain ⟨p, rfl, c2⟩ := r_nat c1 (by omega)
    refine ⟨n, n1, n2, k, k1, ?_, k3⟩
    by_cases e : k = p
    · subst e
      exact absurd (r_z0_ok hE c2 k1 n1 n2 h1.2.2) k3
    · omega
theorem r_h133_ok (hE : bg_E (r_F K g) v E m) {c w : b_T} {cz wz : Int} (hc : b_is v c cz) (hw : b_is v w wz) (h : r_h133 E c w = true) : r_F K g 133 [cz, wz] m := by
  show ∃ n e : Nat, q_i m 93 19 = n ∧ n ≤ 10 ∧ cz = e ∧ e ≤ 11 ∧ wz = j_sum (q_w m 104 11264) (11 * (2 ^ n - 1)) e ∧ j_ok (q_w m 104 11264) (2 ^ n - 1)
  unfold r_h133 at h
  rw [Bool.or_eq_true] at h
  rcases h with h | h
  · rw [Bool.and_eq_true, Bool.and_eq_true] at h
    have e1 := b_eqv_ok hE h.1 hc (b_is_c 0)
    have e2 := b_eqv_ok hE h.2.1 hw (b_is_c 0)
    obtain ⟨n, n1, n2, n3⟩ : ∃ n : Nat, q_i m 93 19 = n ∧ n ≤ 10 ∧ j_ok (q_w m 104 11264) (2 ^ n - 1) := r_has_ok hE h.2.2
    exact ⟨n, 0, n1, n2, by omega, by omega, e2, n3⟩
  · obtain ⟨c0, w0, y, w0z, c1, w1, t1, h1⟩ := r_y2_ok hE h
    obtain ⟨n, e, n1, n2, rfl, e2, e3, n3⟩ : ∃ n e : Nat, q_i m 93 19 = n ∧ n ≤ 10 ∧ y = e ∧ e ≤ 11 ∧ w0z = j_sum (q_w m 104 11264) (11 * (2 ^ n - 1)) e ∧ j_ok (q_w m 104 11264) (2 ^ n - 1) := t1
    rw [Bool.and_eq_true, Bool.and_eq_true, Bool.and_eq_true] at h1
    have d1 := b_eqv_ok hE h1.1 hc (r_sft_ok (d := 1) c1)
    have g10 := r_ge_ok hE h1.2.1 (b_is_c 10) c1
    obtain ⟨z, z1, z2⟩ := r_full_ok hE h1.2.2.2 n1 n2
    obtain ⟨u, u1, u2⟩ := r_ym_ok hE z2 (r_idx z1 c1)
    have d2 := b_eqv_ok hE u2 hw (b_is_ad (k := 1) w1 u1)
    have hp := r_p10 n2
    refine ⟨n, e + 1, n1, n2, by omega, by omega, ?_, n3⟩
    show wz = j_sum (q_w m 104 11264) (11 * (2 ^ n - 1)) e + q_w m 104 11264 (11 * (2 ^ n - 1) + e)
    rw [q_w_at (by omega)]
    omega
theorem r_hav6_ok (hE : bg_E (r_F K g) v E m) {id : Nat} {us : List b_T} {zs : List Int} (hz : g_2 (b_is v) us zs) (h : r_hav6 E id us = true) : r_F K g id zs m := by
  unfold r_hav6 at h
  split at h
  · obtain ⟨a, ys, rfl, ha, h0⟩ := g_ca hz
    have := g_na h0
    subst this
    exact r_h134_ok hE ha h
  · obtain ⟨a, ys, rfl, ha, h0⟩ := g_ca hz
    have := g_na h0
    subst this
    exact r_h135_ok hE ha h
  · have := g_na hz
    subst this
    exact r_h140_ok hE h
  · have := g_na hz
    subst this
    exact r_h144_ok hE h
  · obtain ⟨a, ys, rfl, ha, h0⟩ := g_ca hz
    obtain ⟨b, ys, rfl, hb, h0⟩ := g_ca h0
    obtain ⟨c, ys, rfl, hc, h0⟩ := g_ca h0
    obtain ⟨d, ys, rfl, hd, h0⟩ := g_ca h0
    have := g_na h0
    subst this
    exact r_h139_ok hE ha hb hc hd h
  · obtain ⟨a, ys, rfl, ha, h0⟩ := g_ca hz
    have := g_na h0
    subst this
    exact r_h137_ok hE ha h
  · obtain ⟨a, ys, rfl, ha, h0⟩ := g_ca hz
    obtain ⟨b, ys, rfl, hb, h0⟩ := g_ca h0
    have := g_na h0
    subst this
    exact r_h154_ok hE ha hb h
  · obtain ⟨a, ys, rfl, ha, h0⟩ := g_ca hz
    have := g_na h0
    subst this
    exact r_h150_ok hE ha h
  · obtain ⟨a, ys, rfl, ha, h0⟩ := g_ca hz
    obtain ⟨b, ys, rfl, hb, h0⟩ := g_ca h0
    have := g_na h0
    subst this
    exact r_h151_ok hE ha hb h
  · obtain ⟨a, ys, rfl, ha, h0⟩ := g_ca hz
    obtain ⟨b, ys, rfl, hb, h0⟩ := g_ca h0
    have := g_na h0
    subst this
    exact r_h152_ok hE ha hb h
  · obtain ⟨a, ys, rfl, ha, h0⟩ := g_ca hz
    obtain ⟨b, ys, rfl, hb, h0⟩ := g_ca h0
    have := g_na h0
    subst this
    exact r_h153_ok hE ha hb h
  · obtain ⟨a, ys, rfl, ha, h0⟩ := g_ca hz
    obtain ⟨b, ys, rfl, hb, h0⟩ := g_ca h0
    have := g_na h0
    subst this
    exact r_h160_ok hE ha hb h
  · obtain ⟨a, ys, rfl, ha, h0⟩ := g_ca hz
    obtain ⟨b, ys, rfl, hb, h0⟩ := g_ca h0
    obtain ⟨c, ys, rfl, hc, h0⟩ := g_ca h0
    obtain ⟨d, ys, rfl, hd, h0⟩ := g_ca h0
    have := g_na h0
    subst this
    exact r_h157_ok hE ha hb hc hd h
  · have := g_na hz
    subst this
    exact r_h161_ok hE h
  · have := g_na hz
    subst this
    exact r_h130_ok hE h
  · obtain ⟨a, ys, rfl, ha, h0⟩ := g_ca hz
    have := g_na h0
    subst this
    exact r_h131_ok hE ha h
  · obtain ⟨a, ys, rfl, ha, h0⟩ := g_ca hz
    have := g_na h0
    subst this
    exact r_h132_ok hE ha h
  · obtain ⟨a, ys, rfl, ha, h0⟩ := g_ca hz
    obtain ⟨b, ys, rfl, hb, h0⟩ := g_ca h0
    have := g_na h0
    subst this
    exact r_h133_ok hE ha hb h
  · cases h
end H6
end GH
end
section
section GH
variable {g : Int} {K : r_K}
def r_sto4 (E : b_E) (c : Nat) (x : b_T) (e : b_N) : List b_Q := match Nat.beq c 99, e with
  | true, (false, w) => r_st4 E x w
  | _, _ => []
def r_rdj (E : b_E) (a : Nat) (x : b_T) : Option (Int × Int) := match r_rdi6 E a x with
  | some q => some q
  | none => r_rdi E a x
def r_hk : b_Hk := (fun E c x e => match E.2.2.2.2 with | [] => [] | _ => r_sto E c x e ++ (r_sto3 E c x e ++ (r_sto4 E c x e ++ (r_sto5 E c x e ++ r_sto6 E c x e))), r_pur, fun E id us => r_hav E id us || (r_hav2 E id us || (r_hav3 E id us || (r_hav4 E id us || (r_hav5 E id us || r_hav6 E id us)))), fun E => r_imp E || (match E.2.2.2.2 with | [] => false | _ => r_imp2 E || (r_imp3 E || (r_imp4 E || (r_imp5 E || (r_imp6 E || r_imp7 E))))), r_cas, r_rdb, r_rdj)
theorem r_hk_ok {I : List b_I} (hI : r_Iok I) (hK : r_K1 K) : bg_Hk I (r_F K g) r_hk := by
  refine ⟨?_, ?_, ?_, ?_, ?_, ?_⟩
  · intro v E m m1 c x e j hE hM hM1 hx hm he t ht
    have ht : t ∈ (match E.2.2.2.2 with | [] => [] | _ => r_sto E c x e ++ (r_sto3 E c x e ++ (r_sto4 E c x e ++ (r_sto5 E c x e ++ r_sto6 E c x e)))) := ht
    split at ht
    · cases ht
    rcases List.mem_append.mp ht with ht | ht
    · unfold r_sto at ht
      split at ht
      · cases ht
      · rcases List.mem_append.mp ht with ht | ht
        · exact r_stC_ok hE hx hm he t ht
        · rcases List.mem_append.mp ht with ht | ht
          · exact r_stJ_ok hE hx hm t ht
          · exact r_stT_ok hE hx hm he t ht
    · rcases List.mem_append.mp ht with ht | ht
      · exact r_sto3_ok hI hM hM1 hE hx hm he t ht
      · rcases List.mem_append.mp ht with hq | hq
        rotate_left
        · rcases List.mem_append.mp hq with hq | hq
          · exact r_sto5_ok hE hx hm he t hq
          · exact r_sto6_ok hE hx hm he t hq
        unfold r_sto4 at hq
        split at hq
        · have hc : c = 99 := Nat.eq_of_beq_eq_true (by assumption)
          subst hc
          obtain ⟨z, z1, z2⟩ := he
          refine r_st4_ok hE hx hm ?_ t hq
          unfold q_i
          rw [z1]
          exact z2
        · cases hq
  · intro v nL pc len i l st pc1 l1 st1 sa sa1 m h1 h2 h3 t ht
    exact r_pur_ok h1 h2 h3 t ht
  · intro v E m id us zs hE _ hz h
    have h : (r_hav E id us || (r_hav2 E id us || (r_hav3 E id us || (r_hav4 E id us || (r_hav5 E id us || r_hav6 E id us))))) = true := h
    rw [Bool.or_eq_true, Bool.or_eq_true, Bool.or_eq_true, Bool.or_eq_true, Bool.or_eq_true] at h
    rcases h with h | h | h | h | h | h
    · exact r_hav_ok hE hz h
    · exact r_hav2_ok hE hz h
    · exact r_hav3_ok hE hz h
    · exact r_hav4_ok hE hz h
    · exact r_hav5_ok hE hz h
    · exact r_hav6_ok hE hz h
  · intro v E m hE _ h
    have h : (r_imp E || (match E.2.2.2.2 with | [] => false | _ => r_imp2 E || (r_imp3 E || (r_imp4 E || (r_imp5 E || (r_imp6 E || r_imp7 E)))))) = true := h
    rw [Bool.or_eq_true] at h
    rcases h with h | h
    · exact r_imp_ok hE h
    · split at h
      · cases h
      · rw [Bool.or_eq_true, Bool.or_eq_true, Bool.or_eq_true, Bool.or_eq_true, Bool.or_eq_true] at h
        rcases h with h | h | h | h | h | h
        · exact r_imp2_ok hE h
        · exact r_imp3_ok hE h
        · exact r_imp4_ok hK hE h
        · exact r_imp5_ok hE h
        · exact r_imp6_ok hE h
        · exact r_imp7_ok hE h
  · intro v k E as m hE _ hne
    exact r_cas_ok hE hne
  · refine ⟨?_, ?_⟩
    · intro v E m a x j z q hE _ hx hz h
      exact r_rdb_ok hE hx hz h
    · intro v E m a x j z q hE _ hx hz h
      have h : (match r_rdi6 E a x with | some q => some q | none => r_rdi E a x) = some q := h
      split at h
      · rename_i q1 h1
        have := Option.some.inj h
        subst this
        exact r_rdi6_ok hE hx hz h1
      · exact r_rdi_ok hE hx hz h
end GH
end
section
/-! ONE LOOP HEAD (lp) TAKEN ON TRUST: what it promises is shown by hand -/
noncomputable def b_hsL (hk : b_Hk) (G : q_G) (I : List b_I) (fp : Nat → b_W) (n : Nat) (M : q_MI) (inl : List Nat) (deps : List b_Con) (cuts : List (Nat × Nat × List Int)) (W : b_W) (os : Nat × List b_U) (hs : List b_H) (lp : Nat) : Bool := hs.all (fun h => Nat.beq h.1 lp || (match a_at M (q_mC M) h.1 with
      | some cd => h.2.2.2.all (fun T => b_ent T.1.2.1 T.1.2.2.1 T.2.2 && b_from hk G I fp (inl, deps, cuts, W, os, hs, some T.2.2) n (T.1, [(M, cd, T.2.1, [])]))
      | none => false))
noncomputable def b_chkL (hk : b_Hk) (G : q_G) (I : List b_I) (fp : Nat → b_W) (n : Nat) (c : b_Con) (inl : List Nat) (deps : List b_Con) (cuts : List (Nat × Nat × List Int)) (hs : List b_H) (lp : Nat) : Bool := match (q_gM G)[c.1]? with
  | none => false
  | some M => (match a_at M (q_mC M) 0 with
    | some cd => b_from hk G I fp (inl, deps, cuts, c.2.2.2.1, ((b_eA c.2.1 0).2.2, c.2.2.1), hs, none) n (((b_eA c.2.1 0).2.2, (b_eA c.2.1 0).1, [], [], c.2.2.2.2), [(M, cd, b_lvs 0 (b_eA c.2.1 0).2.1, [])])
    | none => false)
    && b_hsL hk G I fp n M inl deps cuts c.2.2.2.1 ((b_eA c.2.1 0).2.2, c.2.2.1) hs lp
/-- from a template at lp -/
noncomputable def b_chkF (hk : b_Hk) (G : q_G) (I : List b_I) (fp : Nat → b_W) (n : Nat) (c : b_Con) (inl : List Nat) (deps : List b_Con) (cuts : List (Nat × Nat × List Int)) (hs : List b_H) (lp : Nat) (T : b_Te) : Bool := match (q_gM G)[c.1]? with
  | none => false
  | some M => (match a_at M (q_mC M) lp with
    | some cd => b_from hk G I fp (inl, deps, cuts, c.2.2.2.1, ((b_eA c.2.1 0).2.2, c.2.2.1), hs, none) n (T.1, [(M, cd, T.2.1, [])])
    | none => false)
    && b_hsL hk G I fp n M inl deps cuts c.2.2.2.1 ((b_eA c.2.1 0).2.2, c.2.2.1) hs lp
section LOOP
variable {F : Nat → List Int → q_M → Prop} {fp : Nat → b_W} {I : List b_I} {G : q_G}
theorem b_hdL {hk : b_Hk} (hH : bg_Hk I F hk) (hsG : ∀ M ∈ q_gM G, q_srt (q_mC M) = true) (hF : bg_F I fp F) {n : Nat} {inl : List Nat} {deps : List b_Con} {cuts : List (Nat × Nat × List Int)} {W : b_W} {os : Nat × List b_U} {hs : List b_H} {lp : Nat} {M : q_MI} (hsrt : q_srt (q_mC M) = true) (hd : ∀ d ∈ deps, bc_ok G I F d)
    (hh : b_hsL hk G I fp n M inl deps cuts W os hs lp = true)
    (ht : ∀ x ∈ hs, x.1 = lp → ∀ T ∈ x.2.2.2, ∀ l m, (∃ zs, bg_E F zs T.1 m ∧ bg_L zs T.2.1 l ∧ bi_M I m) → ∃ (k : Nat) (r : Option Value) (m1 : q_M), q_run G k M x.1 l [] m = some (r, m1) ∧ bc_P F I (inl, deps, cuts, W, os, hs, none) m r m1) :
    bc_hd G F I (inl, deps, cuts, W, os, hs, none) M none := by
  unfold b_hsL at hh
  have claim : ∀ (N : Nat), ∀ x ∈ hs, ∀ T ∈ x.2.2.2, ∀ (z : Int), z ≤ N → ∀ l m, (∃ zs, bg_E F zs T.1 m ∧ bg_L zs T.2.1 l ∧ bi_M I m ∧ b_is zs T.2.2 z) → ∃ (k : Nat) (r : Option Value) (m1 : q_M), q_run G k M x.1 l [] m = some (r, m1) ∧ bc_P F I (inl, deps, cuts, W, os, hs, none) m r m1 := by
    intro N
    induction N with
    | zero =>
      intro x hx T hT z hz l m hst
      have h1 := List.all_eq_true.mp hh x hx
      by_cases hlp : x.1 = lp
      · obtain ⟨zs, e1, e2, e3, e4⟩ := hst
        exact ht x hx hlp T hT l m ⟨zs, e1, e2, e3⟩
      rw [Bool.or_eq_true] at h1
      rcases h1 with h1 | h1
      · exact absurd (Nat.eq_of_beq_eq_true h1) hlp
      split at h1
      rotate_left
      · cases h1
      rename_i cd hcd
      have h2 := List.all_eq_true.mp h1 T hT
      rw [Bool.and_eq_true] at h2
      obtain ⟨zs, e1, e2, e3, e4⟩ := hst
      obtain ⟨J, jl, d1, d2, d3⟩ := a_at_ok hcd (List.suffix_refl _)
      have hhd : bc_hd G F I (inl, deps, cuts, W, os, hs, some T.2.2) M (some z) := by
        intro y hy T' hT' l' m' ⟨zs', f1, f2, f3, f4⟩
        by_cases hlp' : y.1 = lp
        · exact ht y hy hlp' T' hT' l' m' ⟨zs', f1, f2, f3⟩
        obtain ⟨b, f5, f6⟩ := f4 z rfl
        have h3 := List.all_eq_true.mp hh y hy
        rw [Bool.or_eq_true] at h3
        rcases h3 with h3 | h3
        · exact absurd (Nat.eq_of_beq_eq_true h3) hlp'
        split at h3
        rotate_left
        · cases h3
        have h4 := List.all_eq_true.mp h3 T' hT'
        rw [Bool.and_eq_true] at h4
        have := b_ent_ok f1.2.1 f1.2.2.1 h4.1 f5
        omega
      have K := b_from_ok hH hsG hF (Z := (inl, deps, cuts, W, os, hs, some T.2.2)) hd hhd h2.2 (m0 := m) (v := zs) (ps := [(M, x.1, l, [])]) (m := m) ⟨e1, ⟨⟨rfl, hsrt, ⟨J, jl, d1, d2, d3⟩, e2, trivial⟩, trivial⟩, e3, q_same.rf, fun f hf => by cases hf; rfl, e4⟩
      obtain ⟨k, r, m1, r1, r2⟩ := K
      exact ⟨k, r, m1, r1, r2⟩
    | succ N ih =>
      intro x hx T hT z hz l m hst
      have h1 := List.all_eq_true.mp hh x hx
      by_cases hlp : x.1 = lp
      · obtain ⟨zs, e1, e2, e3, e4⟩ := hst
        exact ht x hx hlp T hT l m ⟨zs, e1, e2, e3⟩
      rw [Bool.or_eq_true] at h1
      rcases h1 with h1 | h1
      · exact absurd (Nat.eq_of_beq_eq_true h1) hlp
      split at h1
      rotate_left
      · cases h1
      rename_i cd hcd
      have h2 := List.all_eq_true.mp h1 T hT
      rw [Bool.and_eq_true] at h2
      obtain ⟨zs, e1, e2, e3, e4⟩ := hst
      obtain ⟨J, jl, d1, d2, d3⟩ := a_at_ok hcd (List.suffix_refl _)
      have hhd : bc_hd G F I (inl, deps, cuts, W, os, hs, some T.2.2) M (some z) := by
        intro y hy T' hT' l' m' ⟨zs', f1, f2, f3, f4⟩
        obtain ⟨b, f5, f6⟩ := f4 z rfl
        exact ih y hy T' hT' b (by omega) l' m' ⟨zs', f1, f2, f3, f5⟩
      have K := b_from_ok hH hsG hF (Z := (inl, deps, cuts, W, os, hs, some T.2.2)) hd hhd h2.2 (m0 := m) (v := zs) (ps := [(M, x.1, l, [])]) (m := m) ⟨e1, ⟨⟨rfl, hsrt, ⟨J, jl, d1, d2, d3⟩, e2, trivial⟩, trivial⟩, e3, q_same.rf, fun f hf => by cases hf; rfl, e4⟩
      obtain ⟨k, r, m1, r1, r2⟩ := K
      exact ⟨k, r, m1, r1, r2⟩
  intro y hy T' hT' l' m' ⟨zs', f1, f2, f3, _⟩
  by_cases hlp' : y.1 = lp
  · exact ht y hy hlp' T' hT' l' m' ⟨zs', f1, f2, f3⟩
  have h3 := List.all_eq_true.mp hh y hy
  rw [Bool.or_eq_true] at h3
  rcases h3 with h3 | h3
  · exact absurd (Nat.eq_of_beq_eq_true h3) hlp'
  split at h3
  rotate_left
  · cases h3
  have h4 := List.all_eq_true.mp h3 T' hT'
  rw [Bool.and_eq_true] at h4
  have hex : ∃ z, b_is zs' T'.2.2 z := by
    have h5 := h4.1
    unfold b_ent at h5
    split at h5
    · rename_i p hp
      exact b_iv_ex f1.2.1 (by rw [hp]; rfl)
    · cases h5
  obtain ⟨z, hz⟩ := hex
  exact claim z.toNat y hy T' hT' z (by omega) l' m' ⟨zs', f1, f2, f3, hz⟩
theorem b_chkF_ok {hk : b_Hk} (hH : bg_Hk I F hk) (hsG : ∀ M ∈ q_gM G, q_srt (q_mC M) = true) (hF : bg_F I fp F) {n : Nat} {c : b_Con} {inl : List Nat} {deps : List b_Con} {cuts : List (Nat × Nat × List Int)} {hs : List b_H} {lp : Nat} {T : b_Te} (h : b_chkF hk G I fp n c inl deps cuts hs lp T = true) (hd : ∀ d ∈ deps, bc_ok G I F d) {M : q_MI} (hM : (q_gM G)[c.1]? = some M)
    (ht : ∀ x ∈ hs, x.1 = lp → ∀ T ∈ x.2.2.2, ∀ l m, (∃ zs, bg_E F zs T.1 m ∧ bg_L zs T.2.1 l ∧ bi_M I m) → ∃ (k : Nat) (r : Option Value) (m1 : q_M), q_run G k M x.1 l [] m = some (r, m1) ∧ bi_M I m1 ∧ q_same c.2.2.2.1 m m1 ∧ bc_fin F m1 ((b_eA c.2.1 0).2.2, c.2.2.1) r)
    {l : q_L} {m : q_M} {zs : List Int} (e1 : bg_E F zs T.1 m) (e2 : bg_L zs T.2.1 l) (e3 : bi_M I m) : ∃ (k : Nat) (r : Option Value) (m1 : q_M), q_run G k M lp l [] m = some (r, m1) ∧ bi_M I m1 ∧ q_same c.2.2.2.1 m m1 ∧ bc_fin F m1 ((b_eA c.2.1 0).2.2, c.2.2.1) r := by
  unfold b_chkF at h
  rw [hM] at h
  simp only [Bool.and_eq_true] at h
  obtain ⟨h0, hh⟩ := h
  have hsrt := hsG M (List.mem_of_getElem? hM)
  have hhd := b_hdL hH hsG hF hsrt hd hh ht
  split at h0
  rotate_left
  · cases h0
  rename_i cd hcd
  obtain ⟨J, jl, d1, d2, d3⟩ := a_at_ok hcd (List.suffix_refl _)
  have K := b_from_ok hH hsG hF (Z := (inl, deps, cuts, c.2.2.2.1, ((b_eA c.2.1 0).2.2, c.2.2.1), hs, none)) hd hhd h0 (m0 := m) (v := zs) (ps := [(M, lp, l, [])]) (m := m) ⟨e1, ⟨⟨rfl, hsrt, ⟨J, jl, d1, d2, d3⟩, e2, trivial⟩, trivial⟩, e3, q_same.rf, fun f hf => by cases hf; rfl, trivial⟩
  obtain ⟨k, r, m1, r1, r2⟩ := K
  exact ⟨k, r, m1, r1, r2⟩
/-- what a method comes to, said of its arguments -/
theorem bc_close {c : b_Con} {ys : List Value} {zs : List Int} (ha : bc_args c.2.1 ys zs) {r : Option Value} {m1 : q_M} (h : bc_fin F m1 ((b_eA c.2.1 0).2.2, c.2.2.1) r) : ∃ o ∈ c.2.2.1, bc_out F zs m1 o r := by
  obtain ⟨o, o1, o2⟩ := h
  obtain ⟨a1, a2, a3⟩ := b_eA_ok [] ha
  simp only [List.nil_append, List.length_nil] at a1 a2 a3
  refine ⟨o, o1, ?_⟩
  have close : ∀ (w : List Int) (z : Option Int) (ts : List b_Q), (∀ x, z = some x → w[(b_eA c.2.1 0).2.2]? = some x) → (∀ t ∈ ts, bc_tk F m1 (b_eA c.2.1 0).2.2 z t) → ∀ t ∈ ts, bg_Q F w m1 t := by
    intro w z ts hw h t ht
    obtain ⟨ys, y1, y2⟩ := h t ht
    refine ⟨ys, ?_, y1⟩
    refine g_2_mono (fun a y hy => ?_) y2
    rcases hy with ⟨e1, e2⟩ | ⟨x, e1, e2, e3⟩
    · exact ⟨0, by rw [e1]; rfl, by omega⟩
    · have := hw x e1
      exact ⟨1 * x + 0, by rw [e2]; exact b_vs_cons.mpr ⟨x, 0, this, rfl, rfl⟩, by omega⟩
  obtain ⟨ou, ots⟩ := o
  unfold bc_out
  simp only at o2 ⊢
  cases ou with
  | none =>
    cases r with
    | none => exact close zs none _ (fun x hx => by cases hx) o2
    | some y => exact o2.elim
  | some b =>
    obtain ⟨lg, lo, hi⟩ := b
    cases r with
    | none => exact o2.elim
    | some y =>
      obtain ⟨z, z1, z2, z3, z4⟩ := o2
      exact ⟨z, z1, z2, z3, close (zs ++ [z]) (some z) _ (fun x hx => by cases hx; rw [a1]; simp) z4⟩
theorem b_chkL_ok {hk : b_Hk} (hH : bg_Hk I F hk) (hsG : ∀ M ∈ q_gM G, q_srt (q_mC M) = true) (hF : bg_F I fp F) {n : Nat} {c : b_Con} {inl : List Nat} {deps : List b_Con} {cuts : List (Nat × Nat × List Int)} {hs : List b_H} {lp : Nat} (h : b_chkL hk G I fp n c inl deps cuts hs lp = true) (hd : ∀ d ∈ deps, bc_ok G I F d)
    (ht : ∀ M, (q_gM G)[c.1]? = some M → ∀ x ∈ hs, x.1 = lp → ∀ T ∈ x.2.2.2, ∀ l m, (∃ zs, bg_E F zs T.1 m ∧ bg_L zs T.2.1 l ∧ bi_M I m) → ∃ (k : Nat) (r : Option Value) (m1 : q_M), q_run G k M x.1 l [] m = some (r, m1) ∧ bi_M I m1 ∧ q_same c.2.2.2.1 m m1 ∧ bc_fin F m1 ((b_eA c.2.1 0).2.2, c.2.2.1) r) : bc_ok G I F c := by
  intro M hM ys zs m ha hI hq
  unfold b_chkL at h
  rw [hM] at h
  simp only [Bool.and_eq_true] at h
  obtain ⟨h0, hh⟩ := h
  have hsrt := hsG M (List.mem_of_getElem? hM)
  have hhd := b_hdL hH hsG hF hsrt hd hh (ht M hM)
  split at h0
  rotate_left
  · cases h0
  rename_i cd hcd
  obtain ⟨J, jl, d1, d2, d3⟩ := a_at_ok hcd (List.suffix_refl _)
  obtain ⟨a1, a2, a3⟩ := b_eA_ok [] ha
  simp only [List.nil_append, List.length_nil] at a1 a2 a3
  have K := b_from_ok hH hsG hF (Z := (inl, deps, cuts, c.2.2.2.1, ((b_eA c.2.1 0).2.2, c.2.2.1), hs, none)) hd hhd h0 (m0 := m) (v := zs) (ps := [(M, 0, lv_args 0 ys, [])]) (m := m) ⟨⟨a1.symm, a2, fun x hx => by (cases hx), fun o ho => by (cases ho), hq⟩, ⟨⟨rfl, hsrt, ⟨J, jl, d1, d2, d3⟩, b_lvs_ok 0 a3, trivial⟩, trivial⟩, hI, q_same.rf, fun f hf => by cases hf; rfl, trivial⟩
  obtain ⟨k, r, m1, r1, r2, r3, o⟩ := K
  exact ⟨k, r, m1, r1, r2, r3, bc_close ha o⟩
end LOOP
/-! HOW MANY ARE OF A HOUSE, whatever the house -/
theorem r_fresh {K : r_K} {G : q_G} {I : List b_I} {k a : Nat} {hi ru : Int} {W : b_W} (h : ∀ g : Int, bc_ok G I (r_F K g) (k, [.inr (.inl a), .inl (false, 0, hi)], [(some (false, 0, ru), [(42, [([(1, 1)], 0)])])], W, [(43, [([(0, 1)], 0)])])) (g : Int) : bc_ok G I (r_F K g) (k, [.inr (.inl a), .inl (false, 0, hi)], [(some (false, 0, ru), [(44, [([(0, 1)], 0), ([(1, 1)], 0)])])], W, []) := by
  intro M hM ys zs m ha hI ht
  obtain ⟨y, x, z, rfl, rfl, h1, h2, h3, h4⟩ : ∃ y x z, ys = [y, x] ∧ zs = [z] ∧ y = .ref a ∧ b_isn false x z ∧ 0 ≤ z ∧ z ≤ hi := by
    cases ys with
    | nil => exact ha.elim
    | cons y ys =>
      obtain ⟨a1, ha⟩ := ha
      cases ys with
      | nil => exact ha.elim
      | cons x ys =>
        cases zs with
        | nil => exact ha.elim
        | cons z zs =>
          obtain ⟨a2, a3, a4, ha⟩ := ha
          cases ys with
          | cons _ _ => exact ha.elim
          | nil =>
            have ha : zs = [] := ha
            subst ha
            exact ⟨y, x, z, rfl, rfl, a1, a2, a3, a4⟩
  have e0 : b_is [z] ([(0, 1)], 0) z := b_is_var rfl
  obtain ⟨n, r, m1, r1, r2, r3, o, o1, o2⟩ := h z M hM [y, x] [z] m ⟨h1, h2, h3, h4, rfl⟩ hI (by
    intro t ht
    have := List.mem_singleton.mp ht
    subst this
    exact ⟨[z], ⟨e0, trivial⟩, rfl⟩)
  refine ⟨n, r, m1, r1, r2, r3, _, List.mem_singleton.mpr rfl, ?_⟩
  have := List.mem_singleton.mp o1
  subst this
  unfold bc_out at o2 ⊢
  cases r with
  | none => exact o2.elim
  | some y =>
    obtain ⟨w, w1, w2, w3, w4⟩ := o2
    refine ⟨w, w1, w2, w3, ?_⟩
    intro t ht
    have := List.mem_singleton.mp ht
    subst this
    obtain ⟨us, u1, u2⟩ := w4 _ (List.mem_singleton.mpr rfl)
    obtain ⟨u, us, rfl, hu, u1⟩ := g_ca u1
    have := g_na u1
    subst this
    have ew : u = w := b_is_uniq hu (b_is_var rfl : b_is [z, w] ([(1, 1)], 0) w)
    subst ew
    obtain ⟨k1, k2, k3, k4⟩ : ∃ k : Nat, q_i m1 99 3 = k ∧ k ≤ 20 ∧ u = r_cnt (r_home m1 99 0) z k := u2
    exact ⟨[z, u], ⟨(b_is_var rfl : b_is [z, u] ([(0, 1)], 0) z), hu, trivial⟩, k1, k2, k3, k4⟩
end
section
/-! THE SEARCH OF ONE GIRL, whoever she is -/
theorem r_finds {K : r_K} {G : q_G} {I : List b_I} {k a : Nat} {W : b_W} (h : ∀ g : Int, bc_ok G I (r_F K g) (k, [.inr (.inl a), .inl (false, 0, 19)], [(some (false, 0, 1), [(87, [])])], W, [(88, []), (89, [([(0, 1)], 0)])])) (g : Int) : bc_ok G I (r_F K g) (k, [.inr (.inl a), .inl (false, 0, 19)], [(some (false, 0, 1), [(80, [([(0, 1)], 1)])])], W, [(80, [([(0, 1)], 0)])]) := by
  intro M hM ys zs m ha hI ht
  obtain ⟨y, x, z, rfl, rfl, h1, h2, h3, h4⟩ : ∃ y x z, ys = [y, x] ∧ zs = [z] ∧ y = .ref a ∧ b_isn false x z ∧ 0 ≤ z ∧ z ≤ 19 := by
    cases ys with
    | nil => exact ha.elim
    | cons y ys =>
      obtain ⟨a1, ha⟩ := ha
      cases ys with
      | nil => exact ha.elim
      | cons x ys =>
        cases zs with
        | nil => exact ha.elim
        | cons z zs =>
          obtain ⟨a2, a3, a4, ha⟩ := ha
          cases ys with
          | cons _ _ => exact ha.elim
          | nil =>
            have ha : zs = [] := ha
            subst ha
            exact ⟨y, x, z, rfl, rfl, a1, a2, a3, a4⟩
  obtain ⟨zs0, q1, q2⟩ := ht _ (List.mem_singleton.mpr rfl)
  obtain ⟨z0, zs1, rfl, hz0, q1⟩ := g_ca q1
  have := g_na q1
  subst this
  have e0 : b_is [z] ([(0, 1)], 0) z := b_is_var rfl
  have ez : z0 = z := b_is_uniq hz0 e0
  subst ez
  obtain ⟨i1, i2⟩ : z_inv (q_i m 108) (q_i m 110) (-1) ∧ ∀ k : Nat, k < 20 → z0 ≤ k → q_i m 110 k = -1 := q2
  obtain ⟨n, r, m1, r1, r2, r3, o, o1, o2⟩ := h z0 M hM [y, x] [z0] m ⟨h1, h2, h3, h4, rfl⟩ hI (by
    intro t ht
    rcases List.mem_cons.mp ht with rfl | ht
    · exact ⟨[], trivial, i1, i2⟩
    · have := List.mem_singleton.mp ht
      subst this
      exact ⟨[z0], ⟨e0, trivial⟩, rfl, h3, by have : z0 ≤ 19 := h4; omega⟩)
  refine ⟨n, r, m1, r1, r2, r3, _, List.mem_singleton.mpr rfl, ?_⟩
  have := List.mem_singleton.mp o1
  subst this
  unfold bc_out at o2 ⊢
  cases r with
  | none => exact o2.elim
  | some y =>
    obtain ⟨w, w1, w2, w3, w4⟩ := o2
    refine ⟨w, w1, w2, w3, ?_⟩
    intro t ht
    have := List.mem_singleton.mp ht
    subst this
    obtain ⟨us, u1, u2⟩ := w4 _ (List.mem_singleton.mpr rfl)
    have := g_na u1
    subst this
    obtain ⟨j1, j2⟩ : z_inv (q_i m1 108) (q_i m1 110) (-1) ∧ ∀ k : Nat, k < 20 → z0 < k → q_i m1 110 k = -1 := u2
    exact ⟨[z0 + 1], ⟨r_sft_ok (d := 1) (b_is_var rfl : b_is [z0, w] ([(0, 1)], 0) z0), trivial⟩, j1, fun k k1 k2 => j2 k k1 (by omega)⟩
/-! WHETHER A SET MAY BE OF ONE HOUSE, whatever the set -/
theorem r_u1 {z u : Int} {us : List Int} {w : List Int} (h : g_2 (b_is (z :: w)) [([(0, 1)], 0)] us) : us = [z] := by
  obtain ⟨u, us, rfl, hu, u1⟩ := g_ca h
  have := g_na u1
  subst this
  rw [b_is_uniq hu (b_is_var rfl : b_is (z :: w) ([(0, 1)], 0) z)]
theorem r_u2 {z z1 : Int} {us : List Int} {w : List Int} (h : g_2 (b_is (z :: z1 :: w)) [([(0, 1)], 0), ([(1, 1)], 0)] us) : us = [z, z1] := by
  obtain ⟨u, us, rfl, hu, u1⟩ := g_ca h
  obtain ⟨u', us, rfl, hu', u1⟩ := g_ca u1
  have := g_na u1
  subst this
  rw [b_is_uniq hu (b_is_var rfl : b_is (z :: z1 :: w) ([(0, 1)], 0) z), b_is_uniq hu' (b_is_var rfl : b_is (z :: z1 :: w) ([(1, 1)], 0) z1)]
theorem r_may {K : r_K} {G : q_G} {I : List b_I} {k a : Nat} {W : b_W} (h : ∀ g : Int, bc_ok G I (r_F K g) (k, [.inr (.inl a), .inl (false, 1, 1023)], [(some (false, 0, 1), [(137, [([(1, 1)], 0)])])], W, [(904, [([(0, 1)], 0)]), (136, [([(0, 1)], 0)]), (140, []), (144, [])])) (g : Int) : bc_ok G I (r_F K g) (k, [.inr (.inl a), .inl (false, 1, 1023)], [(some (false, 0, 1), [(138, [([(0, 1)], 0), ([(1, 1)], 0)])])], W, [(904, [([(0, 1)], 0)]), (140, []), (144, [])]) := by
  intro M hM ys zs m ha hI ht
  obtain ⟨y, x, z, rfl, rfl, h1, h2, h3, h4⟩ : ∃ y x z, ys = [y, x] ∧ zs = [z] ∧ y = .ref a ∧ b_isn false x z ∧ 1 ≤ z ∧ z ≤ 1023 := by
    cases ys with
    | nil => exact ha.elim
    | cons y ys =>
      obtain ⟨a1, ha⟩ := ha
      cases ys with
      | nil => exact ha.elim
      | cons x ys =>
        cases zs with
        | nil => exact ha.elim
        | cons z zs =>
          obtain ⟨a2, a3, a4, ha⟩ := ha
          cases ys with
          | cons _ _ => exact ha.elim
          | nil =>
            have ha : zs = [] := ha
            subst ha
            exact ⟨y, x, z, rfl, rfl, a1, a2, a3, a4⟩
  have e0 : b_is [z] ([(0, 1)], 0) z := b_is_var rfl
  obtain ⟨n, r, m1, r1, r2, r3, o, o1, o2⟩ := h z M hM [y, x] [z] m ⟨h1, h2, h3, h4, rfl⟩ hI (by
    intro t hu
    simp only [List.mem_cons, List.not_mem_nil, or_false] at hu
    rcases hu with rfl | rfl | rfl | rfl
    · obtain ⟨us, u1, u2⟩ := ht _ (List.mem_cons_self ..)
      have := r_u1 (u := 0) u1
      subst this
      exact ⟨[z], u1, u2⟩
    · exact ⟨[z], ⟨e0, trivial⟩, rfl⟩
    · obtain ⟨us, u1, u2⟩ := ht (140, []) (by simp)
      have := g_na u1
      subst this
      exact ⟨[], u1, u2⟩
    · obtain ⟨us, u1, u2⟩ := ht (144, []) (by simp)
      have := g_na u1
      subst this
      exact ⟨[], u1, u2⟩)
  refine ⟨n, r, m1, r1, r2, r3, _, List.mem_singleton.mpr rfl, ?_⟩
  have := List.mem_singleton.mp o1
  subst this
  unfold bc_out at o2 ⊢
  cases r with
  | none => exact o2.elim
  | some y =>
    obtain ⟨w, w1, w2, w3, w4⟩ := o2
    refine ⟨w, w1, w2, w3, ?_⟩
    intro t ht
    have := List.mem_singleton.mp ht
    subst this
    obtain ⟨us, u1, u2⟩ := w4 _ (List.mem_singleton.mpr rfl)
    obtain ⟨u, us, rfl, hu, u1⟩ := g_ca u1
    have := g_na u1
    subst this
    have ew : u = w := b_is_uniq hu (b_is_var rfl : b_is [z, w] ([(1, 1)], 0) w)
    subst ew
    exact ⟨[z, u], ⟨(b_is_var rfl : b_is [z, u] ([(0, 1)], 0) z), hu, trivial⟩, u2⟩
/-! ONE SET MORE, whatever the two -/
theorem r_adds {K : r_K} {G : q_G} {I : List b_I} {k a : Nat} {lo hi : Int} {W : b_W} (h : ∀ g : Int, bc_ok G I (r_F K g) (k, [.inr (.inl a), .inl (false, 1, 1023), .inl (false, 1, 1023), .inl (false, lo, hi)], [(none, [(161, [])])], W, [(152, [([(0, 1)], 0), ([(1, 1)], 0)]), (160, [([(0, 1)], 0), ([(1, 1)], 0)]), (158, [([(0, 1)], 0), ([(1, 1)], 0)])])) (g : Int) : bc_ok G I (r_F K g) (k, [.inr (.inl a), .inl (false, 1, 1023), .inl (false, 1, 1023), .inl (false, lo, hi)], [(none, [(153, [([(0, 1)], 0), ([(1, 1)], 0)])])], W, [(152, [([(0, 1)], 0), ([(1, 1)], 0)]), (160, [([(0, 1)], 0), ([(1, 1)], 0)])]) := by
  intro M hM ys zs m ha hI ht
  obtain ⟨s, q, w, rfl, s1, s2, q1, q2⟩ : ∃ s q w, zs = [s, q, w] ∧ 1 ≤ s ∧ s ≤ 1023 ∧ 1 ≤ q ∧ q ≤ 1023 := by
    cases ys with
    | nil => exact ha.elim
    | cons y ys =>
      obtain ⟨a1, ha⟩ := ha
      cases ys with
      | nil => exact ha.elim
      | cons x ys =>
        cases zs with
        | nil => exact ha.elim
        | cons z zs =>
          obtain ⟨a2, a3, a4, ha⟩ := ha
          cases ys with
          | nil => exact ha.elim
          | cons x1 ys =>
            cases zs with
            | nil => exact ha.elim
            | cons z1 zs =>
              obtain ⟨b2, b3, b4, ha⟩ := ha
              cases ys with
              | nil => exact ha.elim
              | cons x2 ys =>
                cases zs with
                | nil => exact ha.elim
                | cons z2 zs =>
                  obtain ⟨c2, c3, c4, ha⟩ := ha
                  cases ys with
                  | cons _ _ => exact ha.elim
                  | nil =>
                    have ha : zs = [] := ha
                    subst ha
                    exact ⟨z, z1, z2, rfl, a3, a4, b3, b4⟩
  have e2 : g_2 (b_is [s, q, w]) [([(0, 1)], 0), ([(1, 1)], 0)] [s, q] := ⟨b_is_var rfl, b_is_var rfl, trivial⟩
  obtain ⟨n, r, m1, r1, r2, r3, o, o1, o2⟩ := h (1024 * s + q) M hM ys [s, q, w] m ha hI (by
    intro t hu
    simp only [List.mem_cons, List.not_mem_nil, or_false] at hu
    rcases hu with rfl | rfl | rfl
    · obtain ⟨us, u1, u2⟩ := ht _ (List.mem_cons_self ..)
      have := r_u2 u1
      subst this
      exact ⟨[s, q], u1, u2⟩
    · obtain ⟨us, u1, u2⟩ := ht (160, [([(0, 1)], 0), ([(1, 1)], 0)]) (by simp)
      have := r_u2 u1
      subst this
      exact ⟨[s, q], u1, u2⟩
    · exact ⟨[s, q], e2, s.toNat, q.toNat, by omega, by omega, by omega, by omega⟩)
  refine ⟨n, r, m1, r1, r2, r3, _, List.mem_singleton.mpr rfl, ?_⟩
  have := List.mem_singleton.mp o1
  subst this
  unfold bc_out at o2 ⊢
  cases r with
  | some y => exact o2.elim
  | none =>
    intro t ht
    have := List.mem_singleton.mp ht
    subst this
    obtain ⟨us, u1, u2⟩ := o2 _ (List.mem_singleton.mpr rfl)
    have := g_na u1
    subst this
    obtain ⟨x, p, x1, x2, x3, x4⟩ : ∃ n q' : Nat, 1024 * s + q = 1024 * n + q' ∧ q' < 1024 ∧ n < 1024 ∧ 1 ≤ q' ∧ j_ck n 1024 q' = true ∧ j_at (q_w m1 104 11264) n (j_rem n 1024 (j_nx n q')) (j_nx n q' < 2 ^ j_fst n) := u2
    exact ⟨[s, q], e2, x, p, by omega, by omega, x3, x4⟩
end

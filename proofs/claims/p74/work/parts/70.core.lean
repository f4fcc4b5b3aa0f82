/-! THE PURE MACHINE: cells by their number, a step as a function; refs are numbers of cells, the cell k lies at the address bs.1 + k -/
def q_cv (bs : q_B) (v : Value) : Value := match v with
  | .ref k => .ref (bs.1 + k)
  | .retAddr b => .ref (bs.2 b)
  | v => v
def q_ce (bs : q_B) (tc : Nat → ClassId) (x : q_E) : va_E := match x with
  | .inl (t, n, .inl f) => .inl (tc t, n, .inl f)
  | .inl (t, n, .inr (.inl f)) => .inl (tc t, n, .inr (.inl f))
  | .inl (t, n, .inr (.inr f)) => .inl (tc t, n, .inr (.inr (.inr (.inr (fun j => (f j).map (fun k => bs.1 + k))))))
  | .inr (ci, fs) => .inr (ci, fs.map (q_cv bs))
def q_cw (bs : q_B) (tc : Nat → ClassId) (m : q_M) : va_W := m.mapIdx (fun k x => (bs.1 + k, q_ce bs tc x))
def q_cl (bs : q_B) (l : q_L) : q_L := l.map (fun q => (q.1, q_cv bs q.2))
theorem q_cv_cat (bs : q_B) (v : Value) : (q_cv bs v).category = v.category := by cases v <;> rfl
theorem q_cv_narrow (bs : q_B) (ty : FieldType) (v : Value) : narrow ty (q_cv bs v) = q_cv bs (narrow ty v) := by
  cases v <;> cases ty <;> rfl
theorem q_cv_fits (bs : q_B) (ty : FieldType) (v : Value) (h : fits ty v = true) : fits ty (q_cv bs v) = true := by
  cases v <;> cases ty <;> first | exact h | cases h
theorem q_cw_get {bs : q_B} {tc : Nat → ClassId} {m : q_M} {k : Nat} {x : q_E} (h : m[k]? = some x) : (q_cw bs tc m)[k]? = some (bs.1 + k, q_ce bs tc x) := by
  simp [q_cw, h]
theorem q_cw_len {bs : q_B} {tc : Nat → ClassId} {m : q_M} : (q_cw bs tc m).length = m.length := by simp [q_cw]
theorem q_cw_set {bs : q_B} {tc : Nat → ClassId} {m : q_M} {k : Nat} {x : q_E} : (q_cw bs tc m).set k (bs.1 + k, q_ce bs tc x) = q_cw bs tc (m.set k x) := by
  apply List.ext_getElem?
  intro i
  simp only [q_cw, List.getElem?_mapIdx, List.getElem?_set, List.length_mapIdx]
  by_cases h : k = i
  · subst h
    by_cases hl : k < m.length <;> simp [hl]
  · simp [h]
theorem q_cw_push {bs : q_B} {tc : Nat → ClassId} {m : q_M} {x : q_E} : q_cw bs tc m ++ [(bs.1 + m.length, q_ce bs tc x)] = q_cw bs tc (m ++ [x]) := by
  simp [q_cw]
theorem q_cw_D {bs : q_B} {tc : Nat → ClassId} {m : q_M} : va_D (fun q => bs.1 ≤ q) (q_cw bs tc m) := by
  refine ⟨fun i j x y hi hj hxy => ?_, fun k q hk => ?_⟩
  · simp only [q_cw, List.getElem?_mapIdx, Option.map_eq_some_iff] at hi hj
    obtain ⟨a, -, rfl⟩ := hi
    obtain ⟨b, -, rfl⟩ := hj
    simp only at hxy
    omega
  · simp only [q_cw, List.getElem?_mapIdx, Option.map_eq_some_iff] at hk
    obtain ⟨a, -, rfl⟩ := hk
    exact Nat.le_add_right _ _
/-- the heap holds the pure memory -/
abbrev q_Wd (D : va_G) (cl : List vw_C) (bs : q_B) (tc : Nat → ClassId) (m : q_M) (H : Heap) : Prop := va_P D cl (q_cw bs tc m) H
theorem q_sl_set {m : q_M} {k : Nat} {x y : q_E} (h : m[k]? = some x) (hs : q_sz y = q_sz x) : q_sl (m.set k y) = q_sl m := by
  have e : (m.set k y).map q_sz = m.map q_sz := by
    apply List.ext_getElem?
    intro i
    simp only [List.getElem?_map, List.getElem?_set]
    by_cases hk : k = i
    · subst hk
      have hl := (List.getElem?_eq_some_iff.mp h).1
      have e2 : m[k] = x := by
        rw [List.getElem?_eq_getElem hl] at h
        exact Option.some.inj h
      simp [hl, e2, hs]
    · simp [hk]
  simp [q_sl, e]
theorem q_sl_push (m : q_M) (x : q_E) : q_sl (m ++ [x]) = q_sl m + q_sz x := by simp [q_sl]
theorem q_cl_filter (bs : q_B) (P : Nat → Nat → Bool) : ∀ l : q_L, (q_cl bs l).filter (fun q => P q.1 q.2.category) = q_cl bs (l.filter (fun q => P q.1 q.2.category))
  | [] => rfl
  | q :: l => by
    have ih := q_cl_filter bs P l
    simp only [q_cl, List.map_cons, List.filter_cons, q_cv_cat] at ih ⊢
    by_cases h : P q.1 q.2.category = true
    · simp [h, ih]
    · simp [h, ih]
theorem q_cl_s1 (bs : q_B) (l : q_L) (i : Nat) (v : Value) : (i, q_cv bs v) :: (q_cl bs l).filter (fun q => !(q.1 == i) && !(q.1 + 1 == i && q.2.category == 2)) = q_cl bs (q_s1 l i v) := by
  rw [q_cl_filter bs (fun a b => !(a == i) && !(a + 1 == i && b == 2)) l]
  rfl
theorem q_cl_s2 (bs : q_B) (l : q_L) (i : Nat) (v : Value) : (i, q_cv bs v) :: (q_cl bs l).filter (fun q => !(q.1 == i) && (!(q.1 == i + 1) && !(q.1 + 1 == i && q.2.category == 2))) = q_cl bs (q_s2 l i v) := by
  rw [q_cl_filter bs (fun a b => !(a == i) && (!(a == i + 1) && !(a + 1 == i && b == 2))) l]
  rfl
theorem q_lv {ls : Array Slot} {nL : Nat} {bs : q_B} {l : q_L} (h : lv_has ls nL (q_cl bs l)) {k : Nat} {v : Value} (hg : q_get l k = some v) : ls[k]? = some (.val (q_cv bs v)) :=
  h.2.2 (k, q_cv bs v) (List.mem_map.mpr ⟨(k, v), q_get_mem hg, rfl⟩)
theorem q_lvx {bs : q_B} {l : q_L} {k : Nat} {v : Value} (hg : q_get l k = some v) : ∃ j : Nat, (q_cl bs l)[j]? = some (k, q_cv bs v) :=
  List.getElem?_of_mem (List.mem_map.mpr ⟨(k, v), q_get_mem hg, rfl⟩)

theorem q_tat_lw {pos : Nat} {w : Cond} (h : q_tat q_D pos = some w) : w ∈ lw_tbl := by
  unfold q_tat at h
  split at h
  · rename_i l hl
    have h1 : w ∈ (q_gT q_D).flatten := List.mem_flatten.mpr ⟨l, List.mem_of_getElem? hl, List.mem_of_getElem? h⟩
    simpa [q_gT, q_D, q_dT, lw_tbl, tables_1] using h1
  · cases h
theorem q_nestT : ∀ z ∈ q_gN q_D, Cond.methodLinkNest z.1 z.2.1 z.2.2.1 z.2.2.2 ∈ lw_tbl := by
  intro z hz
  have h : q_dN.map (fun z => Cond.methodLinkNest z.1 z.2.1 z.2.2.1 z.2.2.2) = ([1030, 1077, 1230, 2049, 3145, 4036, 4156, 5170] : List Nat).filterMap (fun i => q_tat q_D i) := by decide +kernel
  have h1 : Cond.methodLinkNest z.1 z.2.1 z.2.2.1 z.2.2.2 ∈ q_dN.map (fun z => Cond.methodLinkNest z.1 z.2.1 z.2.2.1 z.2.2.2) := List.mem_map.mpr ⟨z, hz, rfl⟩
  rw [h] at h1
  obtain ⟨i, -, hi⟩ := List.mem_filterMap.mp h1
  exact q_tat_lw hi
theorem q_tyT : ∀ (t : Nat) (ty : FieldType), (q_gA q_D)[t]? = some ty → ((∀ C, ty ≠ .object C) ∧ Cond.arrayClass ty ∈ q_T q_D) ∨ ∃ C, ty = .object C ∧ Cond.arrayOver (.object C) ∈ lw_tbl := by
  intro t ty h
  match t, h with
  | 0, h => cases h; exact Or.inl ⟨(fun C q => by cases q), q_T_at (pos := 1182) (by decide +kernel) rfl⟩
  | 1, h => cases h; exact Or.inl ⟨(fun C q => by cases q), q_T_at (pos := 2068) (by decide +kernel) rfl⟩
  | 2, h => cases h; exact Or.inl ⟨(fun C q => by cases q), q_T_at (pos := 1044) (by decide +kernel) rfl⟩
  | 3, h => cases h; exact Or.inl ⟨(fun C q => by cases q), q_T_at (pos := 6206) (by decide +kernel) rfl⟩
  | 4, h => cases h; exact Or.inr ⟨_, rfl, q_tat_lw (pos := 1183) (by decide +kernel)⟩
  | 5, h => cases h; exact Or.inr ⟨_, rfl, q_tat_lw (pos := 1185) (by decide +kernel)⟩
  | t + 6, h => simp [q_gA, q_D, q_dA] at h
set_option maxRecDepth 100000 in
theorem q_okL : z_okC q_D q_mLw = true := by decide +kernel

/-! A MEMORY OF THE FIXED SHAPE is what stands at its places -/
def bi_sz (N : Nat) (x : b_I) : Prop := match x with
  | .inl (_, n, _) => n ≤ N
  | .inr (_, fs) => fs.length ≤ N
theorem g_2_ln {α β : Type} {R : α → β → Prop} : ∀ {as : List α} {bs : List β}, g_2 R as bs → bs.length = as.length
  | [], [], _ => rfl
  | _ :: _, _ :: _, h => by
    have := g_2_ln h.2
    simp [this]
  | [], _ :: _, h => h.elim
  | _ :: _, [], h => h.elim
theorem bi_ext {I : List b_I} {m m1 : q_M} {N : Nat} (hM : bi_M I m) (hM1 : bi_M I m1) (hs : ∀ x ∈ I, bi_sz N x) (hq : ∀ c j, c < I.length → j ≤ N → q_at m1 c j = q_at m c j) : m1 = m := by
  apply List.ext_getElem?
  intro c
  by_cases hc : c < I.length
  rotate_left
  · rw [List.getElem?_eq_none (by rw [g_2_ln hM1]; omega), List.getElem?_eq_none (by rw [g_2_ln hM]; omega)]
  have hI : I[c]? = some I[c] := List.getElem?_eq_getElem hc
  have hx := hs _ (List.getElem_mem hc)
  obtain ⟨y, hy, b⟩ := bi_get hM hI
  obtain ⟨y1, hy1, b1⟩ := bi_get hM1 hI
  rw [hy, hy1]
  have hq := fun j => hq c j hc
  generalize I[c] = x at *
  match x, b, b1, hx with
  | .inl (t, n, .inl (ex, lo, hi)), ⟨f, e, _, _, hf⟩, ⟨f1, e1, _, _, hf1⟩, hx =>
    have hx : n ≤ N := hx
    subst e e1
    have : f1 = f := by
      funext j
      by_cases hj : j ≤ N
      · have := hq j hj
        rw [q_at_int hy, q_at_int hy1] at this
        exact Value.int.inj this
      · rw [hf j (by omega), hf1 j (by omega)]
    rw [this]
  | .inl (t, n, .inr (.inl _)), ⟨f, e, hf⟩, ⟨f1, e1, hf1⟩, hx =>
    have hx : n ≤ N := hx
    subst e e1
    have : f1 = f := by
      funext j
      by_cases hj : j ≤ N
      · have := hq j hj
        rw [q_at_long hy, q_at_long hy1] at this
        exact Value.long.inj this
      · rw [hf j (by omega), hf1 j (by omega)]
    rw [this]
  | .inl (t, n, .inr (.inr rs)), ⟨f, e, _, hf⟩, ⟨f1, e1, _, hf1⟩, _ =>
    subst e e1
    have : f1 = f := by
      funext j
      rw [hf j, hf1 j]
    rw [this]
  | .inr (ci, fs), ⟨vs, e, hv⟩, ⟨vs1, e1, hv1⟩, hx =>
    have hx : fs.length ≤ N := hx
    subst e e1
    have l := g_2_ln hv
    have l1 := g_2_ln hv1
    have : vs1 = vs := by
      apply List.ext_getElem (by omega)
      intro j h1 h2
      have := hq j (by omega)
      rw [q_at_obj hy, q_at_obj hy1] at this
      simpa [List.getD, h1, h2] using this
    rw [this]
/-- what a call gives back, by the memory -/
abbrev r_K : Type := Nat → Int → q_M → Prop

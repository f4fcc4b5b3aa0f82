/-! RULES OF CALLS: what a call gives back on this memory -/
section GH
variable {g : Int} {K : r_K}
def r_imp4 (E : b_E) : Bool := r_any E 97 (fun a => match a with
  | [w, r] => r_any E 97 (fun b => match b with | [w1, r1] => decide (w = w1) && r_ge E r r1 1 | _ => false)
  | _ => false)
/-- one answer on one memory -/
def r_K1 (K : r_K) : Prop := ∀ w r r1 m, K w r m → K w r1 m → r = r1
theorem r_imp4_ok {v : List Int} {E : b_E} {m : q_M} (hK : r_K1 K) (hE : bg_E (r_F K g) v E m) : ¬ r_imp4 E = true := by
  intro h
  obtain ⟨u, hu, h1, h2⟩ := r_any_ok h
  split at h2
  rotate_left
  · cases h2
  rename_i w r hu2
  obtain ⟨u1, hu1, h3, h4⟩ := r_any_ok h2
  split at h4
  rotate_left
  · cases h4
  rename_i w1 r1 hu3
  rw [Bool.and_eq_true, decide_eq_true_eq] at h4
  obtain ⟨rfl, h5⟩ := h4
  obtain ⟨a, b, a1, b1, ab⟩ := r_tok2 hE hu hu2
  obtain ⟨a', b', a1', b1', ab'⟩ := r_tok2 hE hu1 hu3
  rw [h1] at ab
  rw [h3] at ab'
  have ab : K a.toNat b m := ab
  have ab' : K a'.toNat b' m := ab'
  have e := b_is_uniq a1 a1'
  subst e
  have := hK _ _ _ _ ab ab'
  have := r_ge_ok hE h5 b1 b1'
  omega
/-- the k-th method, of the object a, asked for a text -/
def r_call (G : q_G) (k a : Nat) : r_K := fun w r m => ∃ (M : q_MI) (n : Nat) (z : Int32), (q_gM G)[k]? = some M ∧ q_run G n M 0 (lv_args 0 [.ref a, .retAddr w]) [] m = some (some (.int z), m) ∧ z.toInt = r
theorem r_call_1 {G : q_G} {k a : Nat} : r_K1 (r_call G k a) := by
  intro w r r1 m ⟨M, n, z, h1, h2, h3⟩ ⟨M', n', z', h1', h2', h3'⟩
  rw [h1] at h1'
  cases h1'
  have e := q_fuel n (n + n') _ _ _ _ _ _ (by omega) h2
  have e' := q_fuel n' (n + n') _ _ _ _ _ _ (by omega) h2'
  rw [e] at e'
  simp only [Option.some.injEq, Prod.mk.injEq, Value.int.injEq, and_true] at e'
  rw [← h3, ← h3', e']
/-- a contract that writes nothing tells what it gives back -/
theorem r_is {G : q_G} {I : List b_I} {k a w : Nat} (hI : r_Iok I) (h : bc_ok G I (r_F (r_call G k a) g) (k, [.inr (.inl a), .inr (.inr w)], [(some (false, 0, 1), [])], [], [])) : bc_ok G I (r_F (r_call G k a) g) (k, [.inr (.inl a), .inr (.inr w)], [(some (false, 0, 0), [(97, [b_c w, b_c 0])]), (some (false, 1, 1), [(97, [b_c w, b_c 1])])], [], []) := by
  intro M hM ys zs m ha hm ht
  obtain ⟨n, r, m1, r1, r2, r3, o, o1, o2⟩ := h M hM ys zs m ha hm (fun t ht => by cases ht)
  have em : m1 = m := bi_ext hm r2 hI.2.2.2.2.2 (fun c j _ _ => r3 c j (fun ⟨q, hq, _⟩ => by cases hq))
  subst em
  obtain ⟨rfl, rfl⟩ : ys = [.ref a, .retAddr w] ∧ zs = [] := by
    cases ys with
    | nil => exact ha.elim
    | cons y ys =>
      obtain ⟨a1, ha⟩ := ha
      cases ys with
      | nil => exact ha.elim
      | cons y2 ys =>
        obtain ⟨a2, ha⟩ := ha
        cases ys with
        | cons _ _ => exact ha.elim
        | nil =>
          have ha : zs = [] := ha
          exact ⟨by rw [a1, a2], ha⟩
  have := List.mem_singleton.mp o1
  subst this
  unfold bc_out at o2
  cases r with
  | none => exact o2.elim
  | some y =>
    obtain ⟨z, ⟨x, rfl, rfl⟩, z2, z3, -⟩ := o2
    have z2 : 0 ≤ x.toInt := z2
    have z3 : x.toInt ≤ 1 := z3
    have tok : ∀ c : Int, x.toInt = c → ∀ t ∈ [((97 : Nat), [b_c (w : Int), b_c c])], bg_Q (r_F (r_call G k a) g) ([] ++ [x.toInt]) m1 t := by
      intro c hc t ht
      have := List.mem_singleton.mp ht
      subst this
      refine ⟨[(w : Int), c], ⟨b_is_c _, b_is_c _, trivial⟩, ?_⟩
      show r_call G k a (w : Int).toNat c m1
      exact ⟨M, n, x, hM, by simpa using r1, hc⟩
    by_cases h0 : x.toInt = 0
    · exact ⟨n, _, m1, r1, r2, r3, _, List.mem_cons_self, x.toInt, ⟨x, rfl, rfl⟩, by omega, by omega, tok 0 h0⟩
    · exact ⟨n, _, m1, r1, r2, r3, _, List.mem_cons_of_mem _ (List.mem_singleton.mpr rfl), x.toInt, ⟨x, rfl, rfl⟩, by omega, by omega, tok 1 (by omega)⟩
end GH

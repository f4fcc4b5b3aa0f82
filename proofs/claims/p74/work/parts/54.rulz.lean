section GH
variable {g : Int} {K : r_K}
/-- one or the other, before scholarsOf (245) and manyOf (243) -/
def r_cas (k : Nat) (E : b_E) (as : List b_V) : List (List b_Q) := match E.2.2.2.2 with
  | [] => []
  | _ => match (as[1]? : Option b_V) with
    | some (.inl (false, h)) => (match Nat.beq k 245, Nat.beq k 243 with
      | true, _ => if r_any E 35 (fun w => decide (w = [h])) = true then [[(32, [h])], [(35, [r_sft h 1])]] else []
      | false, true => if r_any E 38 (fun w => decide (w = [h])) = true then [[(39, [h])], [(38, [r_sft h 1])]] else []
      | _, _ => [])
    | _ => []
def r_sto (E : b_E) (c : Nat) (x : b_T) (e : b_N) : List b_Q := match E.2.2.2.2 with
  | [] => []
  | _ => r_stC E c x e ++ (r_stJ E c x ++ r_stT E c x e)
theorem r_cas_ok {v : List Int} {k : Nat} {E : b_E} {as : List b_V} {m : q_M} (hE : bg_E (r_F K g) v E m) (hne : r_cas k E as ≠ []) : ∃ ts ∈ r_cas k E as, ∀ t ∈ ts, bg_Q (r_F K g) v m t := by
  unfold r_cas at hne ⊢
  split at hne
  · exact absurd rfl hne
  split at hne
  rotate_left
  · exact absurd rfl hne
  rename_i hk0 _ hh has
  split at hne
  · split at hne
    rotate_left
    · exact absurd rfl hne
    rename_i hc
    rw [if_pos hc]
    obtain ⟨u, hu, h2, h3⟩ := r_any_ok hc
    obtain ⟨w, w1, w2⟩ := r_tok1 hE hu (of_decide_eq_true h3)
    rw [h2] at w2
    obtain ⟨k, k1, k2, k3, k4⟩ : ∃ k : Nat, k < 20 ∧ (k : Int) < q_i m 94 3 ∧ r_sch m k ∧ w ≤ r_home m 94 0 k := w2
    by_cases hk : r_home m 94 0 k = w
    · refine ⟨_, List.mem_cons_self, fun t ht => ?_⟩
      have := List.mem_singleton.mp ht
      subst this
      exact ⟨[w], ⟨w1, trivial⟩, k, k1, k2, k3, hk⟩
    · refine ⟨_, List.mem_cons_of_mem _ (List.mem_singleton.mpr rfl), fun t ht => ?_⟩
      have := List.mem_singleton.mp ht
      subst this
      exact ⟨[w + 1], ⟨r_sft_ok w1, trivial⟩, k, k1, k2, k3, by omega⟩
  · split at hne
    rotate_left
    · exact absurd rfl hne
    rename_i hc
    rw [if_pos hc]
    obtain ⟨u, hu, h2, h3⟩ := r_any_ok hc
    obtain ⟨w, w1, w2⟩ := r_tok1 hE hu (of_decide_eq_true h3)
    rw [h2] at w2
    obtain ⟨k, k1, k2, k4⟩ : ∃ k : Nat, k < 20 ∧ (k : Int) < q_i m 94 3 ∧ w ≤ r_home m 94 0 k := w2
    by_cases hk : r_home m 94 0 k = w
    · refine ⟨_, List.mem_cons_self, fun t ht => ?_⟩
      have := List.mem_singleton.mp ht
      subst this
      exact ⟨[w], ⟨w1, trivial⟩, k, k1, k2, hk⟩
    · refine ⟨_, List.mem_cons_of_mem _ (List.mem_singleton.mpr rfl), fun t ht => ?_⟩
      have := List.mem_singleton.mp ht
      subst this
      exact ⟨[w + 1], ⟨r_sft_ok w1, trivial⟩, k, k1, k2, by omega⟩
  · exact absurd rfl hne
end GH

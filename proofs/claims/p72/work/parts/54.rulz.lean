/-- one or the other, before scholarsOf (245) and manyOf (243) -/
def r_cas (k : Nat) (E : b_E) (as : List b_V) : List (List b_Q) := match E.2.2.2.2 with
  | [] => []
  | _ => match (as[1]? : Option b_V) with
    | some (.inl (false, h)) => (match Nat.beq k 245, Nat.beq k 243 with
      | true, _ => if r_any E 35 (fun w => decide (w = [h])) = true then [[(32, [h])], [(35, [r_sft h 1])]] else []
      | false, true => if r_any E 38 (fun w => decide (w = [h])) = true then [[(39, [h])], [(38, [r_sft h 1])]] else []
      | _, _ => [])
    | _ => []
def r_sto (E : b_E) (c : Nat) (x : b_T) (e : b_N) : List b_Q := match E.2.2.2.2 with
  | [] => []
  | _ => r_stC E c x e ++ (r_stJ E c x ++ r_stT E c x e)
def r_hk : b_Hk := (r_sto, fun _ _ _ => [], r_hav, r_imp, r_cas)
theorem r_hk_ok {I : List b_I} : bg_Hk I r_F r_hk := by
  refine ⟨?_, ?_, ?_, ?_, ?_⟩
  · intro v E m m1 c x e j hE _ _ hx hm he t ht
    have ht : t ∈ r_sto E c x e := ht
    unfold r_sto at ht
    split at ht
    · cases ht
    · rcases List.mem_append.mp ht with ht | ht
      · exact r_stC_ok hE hx hm he t ht
      · rcases List.mem_append.mp ht with ht | ht
        · exact r_stJ_ok hE hx hm t ht
        · exact r_stT_ok hE hx hm he t ht
  · intro v nL pc len i l st pc1 l1 st1 sa sa1 m _ _ _ t ht
    cases ht
  · intro v E m id us zs hE _ hz h
    exact r_hav_ok hE hz h
  · intro v E m hE _
    exact r_imp_ok hE
  · intro v k E as m hE _ hne
    have e : r_hk.2.2.2.2 k E as = r_cas k E as := rfl
    rw [e] at hne ⊢
    unfold r_cas at hne ⊢
    split at hne
    · exact absurd rfl hne
    split at hne
    rotate_left
    · exact absurd rfl hne
    rename_i hk0 _ hh has
    split at hne
    · split at hne
      rotate_left
      · exact absurd rfl hne
      rename_i hc
      rw [if_pos hc]
      obtain ⟨u, hu, h2, h3⟩ := r_any_ok hc
      obtain ⟨w, w1, w2⟩ := r_tok1 hE hu (of_decide_eq_true h3)
      rw [h2] at w2
      obtain ⟨k, k1, k2, k3, k4⟩ : ∃ k : Nat, k < 20 ∧ (k : Int) < q_i m 94 3 ∧ r_sch m k ∧ w ≤ r_home m 94 0 k := w2
      by_cases hk : r_home m 94 0 k = w
      · refine ⟨_, List.mem_cons_self, fun t ht => ?_⟩
        have := List.mem_singleton.mp ht
        subst this
        exact ⟨[w], ⟨w1, trivial⟩, k, k1, k2, k3, hk⟩
      · refine ⟨_, List.mem_cons_of_mem _ (List.mem_singleton.mpr rfl), fun t ht => ?_⟩
        have := List.mem_singleton.mp ht
        subst this
        exact ⟨[w + 1], ⟨r_sft_ok w1, trivial⟩, k, k1, k2, k3, by omega⟩
    · split at hne
      rotate_left
      · exact absurd rfl hne
      rename_i hc
      rw [if_pos hc]
      obtain ⟨u, hu, h2, h3⟩ := r_any_ok hc
      obtain ⟨w, w1, w2⟩ := r_tok1 hE hu (of_decide_eq_true h3)
      rw [h2] at w2
      obtain ⟨k, k1, k2, k4⟩ : ∃ k : Nat, k < 20 ∧ (k : Int) < q_i m 94 3 ∧ w ≤ r_home m 94 0 k := w2
      by_cases hk : r_home m 94 0 k = w
      · refine ⟨_, List.mem_cons_self, fun t ht => ?_⟩
        have := List.mem_singleton.mp ht
        subst this
        exact ⟨[w], ⟨w1, trivial⟩, k, k1, k2, hk⟩
      · refine ⟨_, List.mem_cons_of_mem _ (List.mem_singleton.mpr rfl), fun t ht => ?_⟩
        have := List.mem_singleton.mp ht
        subst this
        exact ⟨[w + 1], ⟨r_sft_ok w1, trivial⟩, k, k1, k2, by omega⟩
    · exact absurd rfl hne

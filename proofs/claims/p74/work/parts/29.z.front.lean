/-! a front of states, all gone on by so many steps -/
def a_one (G : q_G) (mx ml : Nat) : List a_K → Option (List a_K)
  | [] => some []
  | K :: Ks => match a_step G mx ml K, a_one G mx ml Ks with
    | some l, some r => some (l ++ r)
    | _, _ => none
noncomputable def a_fr (G : q_G) (mx ml : Nat) (n : Nat) : List a_K → Option (List a_K) := Nat.rec (motive := fun _ => List a_K → Option (List a_K)) (fun Ks => some Ks) (fun _ ih Ks => match a_one G mx ml Ks with
  | some Ks1 => ih Ks1
  | none => none) n
section GFR
variable {G : q_G} {b L : Nat} {xs : Nat → Int32} {ML : q_MI} {mx ml : Nat}
def g_Good (G : q_G) (ML : q_MI) (b L : Nat) (xs : Nat → Int32) (mx ml : Nat) (K : a_K) : Prop := ∀ (v : List Int) (ps : List q_Fr) (m : q_M), g_K ML b L xs v K ps m → q_Kt G b L xs ML (fun z qF => z = 1 ∧ qF.length ≤ mx ∧ q_sl qF ≤ ml) ps none m
theorem g_one (hsG : ∀ M ∈ q_gM G, q_srt (q_mC M) = true) : ∀ {Ks Ks1 : List a_K}, a_one G mx ml Ks = some Ks1 → (∀ K ∈ Ks1, g_Good G ML b L xs mx ml K) → ∀ K ∈ Ks, g_Good G ML b L xs mx ml K
  | [], _, _, _, K, hK => by cases hK
  | K0 :: Ks, Ks1, h, hg, K, hK => by
    unfold a_one at h
    split at h
    rotate_left
    · cases h
    rename_i l r h1 h2
    cases h
    rcases List.mem_cons.mp hK with rfl | hK
    · intro v ps m hk
      rcases g_step hsG h1 hk with h3 | ⟨K1, hm, v1, ps1, m1, hK1, hgo⟩
      · exact h3
      · exact hgo (hg K1 (List.mem_append_left _ hm) v1 ps1 m1 hK1)
    · exact g_one hsG h2 (fun z hz => hg z (List.mem_append_right _ hz)) K hK
theorem g_fr (hsG : ∀ M ∈ q_gM G, q_srt (q_mC M) = true) : ∀ (n : Nat) {Ks Ks1 : List a_K}, a_fr G mx ml n Ks = some Ks1 → (∀ K ∈ Ks1, g_Good G ML b L xs mx ml K) → ∀ K ∈ Ks, g_Good G ML b L xs mx ml K
  | 0, Ks, Ks1, h, hg => by
    cases h
    exact hg
  | n + 1, Ks, Ks1, h, hg => by
    have h : (match a_one G mx ml Ks with | some Ks2 => a_fr G mx ml n Ks2 | none => none) = some Ks1 := h
    split at h
    rotate_left
    · cases h
    rename_i Ks2 h1
    exact g_one hsG h1 (g_fr hsG n h hg)
theorem g_fr' (hsG : ∀ M ∈ q_gM G, q_srt (q_mC M) = true) {n k : Nat} {Ks F : List a_K} (hF : a_fr G mx ml n Ks = some F) (hlen : F.length ≤ k) (hg : ∀ j, j < k → ∀ K, F[j]? = some K → g_Good G ML b L xs mx ml K) : ∀ K ∈ Ks, g_Good G ML b L xs mx ml K := by
  refine g_fr hsG n hF (fun K hK => ?_)
  obtain ⟨j, hj⟩ := List.getElem?_of_mem hK
  exact hg j (Nat.lt_of_lt_of_le (List.getElem?_eq_some_iff.mp hj).1 hlen) K hj
end GFR

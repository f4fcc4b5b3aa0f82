theorem t_all_go {l : List Nat} (h : l.all t_go = true) {j : Nat} (hj : j ∈ l) : t_go j = true := List.all_eq_true.mp h j hj
theorem t_go_all (j : Nat) (hj : j < 74) (h68 : j ≠ 68) : t_go j = true := by
  have hm : j ∈ ([1, 3, 4, 5, 6, 7, 8, 9, 10, 11] ++ ([12, 13, 14, 15, 16, 17, 18, 19, 20, 21] ++ ([22, 23, 24, 25, 26, 27, 28, 29, 30, 31] ++ ([32, 33, 34, 35, 36, 37, 38, 39, 40, 41] ++ ([42, 43, 44, 45, 46, 47, 48, 49, 50, 51] ++ ([52, 53, 54, 55, 56, 57, 58, 59, 60, 61] ++ ([62, 63, 64, 65, 66, 67, 69, 71, 72, 73] ++ [0, 2, 70])))))) : List Nat) := by
    simp only [List.cons_append, List.nil_append, List.mem_cons, List.not_mem_nil, or_false]
    omega
  rcases List.mem_append.mp hm with h | hm
  · exact t_all_go t_g0 h
  rcases List.mem_append.mp hm with h | hm
  · exact t_all_go t_g1 h
  rcases List.mem_append.mp hm with h | hm
  · exact t_all_go t_g2 h
  rcases List.mem_append.mp hm with h | hm
  · exact t_all_go t_g3 h
  rcases List.mem_append.mp hm with h | hm
  · exact t_all_go t_g4 h
  rcases List.mem_append.mp hm with h | hm
  · exact t_all_go t_g5 h
  rcases List.mem_append.mp hm with h | hm
  · exact t_all_go t_g6 h
  simp only [List.mem_cons, List.not_mem_nil, or_false] at hm
  rcases hm with rfl | rfl | rfl
  · exact t_h0
  · exact t_h2
  · exact t_h70
theorem t_gi_all (j : Nat) (hj : j < 3) : t_gi j = true := by
  have h : j = 0 ∨ j = 1 ∨ j = 2 := by omega
  rcases h with rfl | rfl | rfl
  · exact t_i0
  · exact t_i1
  · exact t_i2
theorem t_get {α : Type} {o : Option α} {d : α} (h : o.isSome = true) : o = some (o.getD d) := by
  cases o with
  | none => cases h
  | some x => rfl
section TE
variable {b L : Nat} {xs : Nat → Int32}
theorem t_good_gi (j : Nat) (hj : j < 3) (K : a_K) (hK : t_G[j]? = some K) : g_Good q_D q_mLaw b L xs 600000 7302250 K := by
  have h := t_gi_all j hj
  unfold t_gi at h
  rw [hK] at h
  exact fun v ps m hk => g_run q_srtAll 9000 K h v ps m hk
theorem t_good_68 (K : a_K) (hK : t_F[68]? = some K) : g_Good q_D q_mLaw b L xs 600000 7302250 K := by
  have hs := t_G_some
  rw [hK] at hs
  have hG : t_G = (a_fr q_D 600000 7302250 400 [K]).getD [] := by
    unfold t_G
    rw [hK]
  have hF : a_fr q_D 600000 7302250 400 [K] = some t_G := by
    rw [hG]
    exact t_get hs
  exact g_fr' q_srtAll hF (Nat.le_of_eq t_G_len) t_good_gi K List.mem_cons_self
theorem t_good_j (j : Nat) (hj : j < 74) (K : a_K) (hK : t_F[j]? = some K) : g_Good q_D q_mLaw b L xs 600000 7302250 K := by
  by_cases h68 : j = 68
  · subst h68
    exact t_good_68 K hK
  · have h := t_go_all j hj h68
    unfold t_go at h
    rw [hK] at h
    exact fun v ps m hk => g_run q_srtAll 9000 K h v ps m hk
theorem t_good0 : g_Good q_D q_mLaw b L xs 600000 7302250 t_K0 :=
  g_fr' q_srtAll (k := 74) (F := t_F) (t_get t_F_some) t_F_len t_good_j t_K0 List.mem_cons_self
end TE
theorem law_ends (b L : Nat) (xs : Nat → Int32) (hL : L ≤ 6) : ∃ n v qF, q_lrun q_D b L xs q_mLaw n 0 [(0, .retAddr b)] [] [] = some (v, qF) ∧ v = 1 ∧ qF.length ≤ 600000 ∧ q_sl qF ≤ 7302250 := by
  have hc : ∃ J l, q_cL = J :: l ∧ J.1 = 0 := ⟨_, _, rfl, rfl⟩
  have hk : g_K q_mLaw b L xs [(L : Int)] t_K0 [(q_mLaw, 0, [(0, .retAddr b)], [])] [] := by
    refine ⟨rfl, ?_, ?_, ⟨⟨rfl, q_srtL, ?_, ?_, ?_⟩, trivial⟩, ?_, rfl, by omega, ?_⟩
    · intro q hq
      simp only [t_K0, List.mem_cons, List.not_mem_nil, or_false] at hq
      subst hq
      exact ⟨L, rfl, by simp, by simpa using (show (L : Int) ≤ 6 by omega)⟩
    · intro q hq
      cases hq
    · obtain ⟨J, l, h1, h2⟩ := hc
      exact ⟨J, l, h1, h2, List.suffix_refl _⟩
    · exact ⟨⟨rfl, rfl⟩, trivial⟩
    · trivial
    · trivial
    · intro f hf
      cases hf
      rfl
  exact t_good0 [(L : Int)] [(q_mLaw, 0, [(0, .retAddr b)], [])] [] hk

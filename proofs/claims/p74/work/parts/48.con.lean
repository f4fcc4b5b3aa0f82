/-! CONTRACTS CHECKED -/
def b_eA : List b_A → Nat → a_B × List b_V × Nat
  | [], k => ([], [], k)
  | .inl (lg, lo, hi) :: as, k => ((k, lo, hi) :: (b_eA as (k + 1)).1, .inl (lg, if lo = hi then b_c lo else ([(k, 1)], 0)) :: (b_eA as (k + 1)).2.1, (b_eA as (k + 1)).2.2)
  | .inr a :: as, k => ((b_eA as k).1, .inr a :: (b_eA as k).2.1, (b_eA as k).2.2)
/-- a contract and its certificate: what is followed into, the contracts of what it calls, cuts, loop heads -/
noncomputable def b_chk (hk : b_Hk) (G : q_G) (I : List b_I) (fp : Nat → b_W) (n : Nat) (c : b_Con) (inl : List Nat) (deps : List b_Con) (cuts : List (Nat × Nat × List Int)) (hs : List b_H) : Bool := match (q_gM G)[c.1]? with
  | none => false
  | some M => (match a_at M (q_mC M) 0 with
    | some cd => b_from hk G I fp (inl, deps, cuts, c.2.2.2.1, ((b_eA c.2.1 0).2.2, c.2.2.1), hs, none) n (((b_eA c.2.1 0).2.2, (b_eA c.2.1 0).1, [], [], c.2.2.2.2), [(M, cd, b_lvs 0 (b_eA c.2.1 0).2.1, [])])
    | none => false)
    && hs.all (fun h => match a_at M (q_mC M) h.1 with
      | some cd => h.2.2.2.all (fun T => b_ent T.1.2.1 T.1.2.2.1 T.2.2 && b_from hk G I fp (inl, deps, cuts, c.2.2.2.1, ((b_eA c.2.1 0).2.2, c.2.2.1), hs, some T.2.2) n (T.1, [(M, cd, T.2.1, [])]))
      | none => false)
section BCON
variable {F : Nat → List Int → q_M → Prop} {fp : Nat → b_W} {I : List b_I} {G : q_G}
theorem b_run_ok {hk : b_Hk} (hH : bg_Hk I F hk) (hsG : ∀ M ∈ q_gM G, q_srt (q_mC M) = true) (hF : bg_F I fp F) {Z : b_Z} (hcs : ∀ c ∈ Z.2.1, bc_ok G I F c) {MB : q_MI} {m0 : q_M} {z0 : Option Int} (hh : bc_hd G F I Z MB z0) : ∀ (n : Nat) (S : b_S), b_run hk G I fp Z n S = true → ∀ (v : List Int) (ps : List q_Fr) (m : q_M), bg_St F I Z MB m0 z0 v S ps m → q_Kp G (bc_P F I Z m0) ps none m
  | 0, S, h, _, _, _, _ => by
    have h : false = true := h
    cases h
  | n + 1, S, h, v, ps, m, hK => by
    have h : (match b_step hk G I fp Z true S with | none => false | some [] => true | some [S1] => b_run hk G I fp Z n S1 | some Ss => Ss.all (b_run hk G I fp Z n)) = true := h
    split at h
    · cases h
    · rename_i hst
      rcases b_step_ok hH hsG hF hcs (fun _ => hh) hst hK with h1 | ⟨S1, h1, -⟩
      · exact h1
      · cases h1
    · rename_i S1 hst
      rcases b_step_ok hH hsG hF hcs (fun _ => hh) hst hK with h1 | ⟨S2, h1, v1, ps1, m1, h2, h3⟩
      · exact h1
      · have := List.mem_singleton.mp h1
        subst this
        exact h3 (b_run_ok hH hsG hF hcs hh n _ h v1 ps1 m1 h2)
    · rename_i Ss _ _ hst
      rcases b_step_ok hH hsG hF hcs (fun _ => hh) hst hK with h1 | ⟨S2, h1, v1, ps1, m1, h2, h3⟩
      · exact h1
      · exact h3 (b_run_ok hH hsG hF hcs hh n _ (List.all_eq_true.mp h S2 h1) v1 ps1 m1 h2)
theorem b_from_ok {hk : b_Hk} (hH : bg_Hk I F hk) (hsG : ∀ M ∈ q_gM G, q_srt (q_mC M) = true) (hF : bg_F I fp F) {Z : b_Z} (hcs : ∀ c ∈ Z.2.1, bc_ok G I F c) {MB : q_MI} {m0 : q_M} {z0 : Option Int} (hh : bc_hd G F I Z MB z0) {n : Nat} {S : b_S} (h : b_from hk G I fp Z n S = true) {v : List Int} {ps : List q_Fr} {m : q_M} (hK : bg_St F I Z MB m0 z0 v S ps m) : q_Kp G (bc_P F I Z m0) ps none m := by
  unfold b_from at h
  split at h
  · cases h
  · rename_i Ss hst
    rcases b_step_ok hH hsG hF hcs (chk := false) (fun e => by cases e) hst hK with h1 | ⟨S2, h1, v1, ps1, m1, h2, h3⟩
    · exact h1
    · exact h3 (b_run_ok hH hsG hF hcs hh n _ (List.all_eq_true.mp h S2 h1) v1 ps1 m1 h2)
theorem b_eA_ok : ∀ {as : List b_A} {ys : List Value} {zs : List Int} (pre : List Int), bc_args as ys zs → (b_eA as pre.length).2.2 = (pre ++ zs).length ∧ g_B (pre ++ zs) (b_eA as pre.length).1 ∧ bg_s (pre ++ zs) (b_eA as pre.length).2.1 ys
  | [], [], zs, pre, h => by
    have h : zs = [] := h
    subst h
    exact ⟨by simp [b_eA], (fun q hq => by (cases hq)), trivial⟩
  | .inl (lg, lo, hi) :: as, y :: ys, z :: zs, pre, h => by
    obtain ⟨h1, h2, h3, h4⟩ := h
    have ih := b_eA_ok (pre ++ [z]) h4
    rw [List.append_assoc, List.length_append] at ih
    simp only [List.length_cons, List.length_nil, Nat.zero_add, List.cons_append, List.nil_append] at ih
    have hv : (pre ++ z :: zs)[pre.length]? = some z := by simp
    refine ⟨ih.1, ?_, ?_, ih.2.2⟩
    · intro q hq
      rcases List.mem_cons.mp hq with rfl | hq
      · exact ⟨z, hv, h2, h3⟩
      · exact ih.2.1 q hq
    · have hz : b_is (pre ++ z :: zs) (if lo = hi then b_c lo else ([(pre.length, 1)], 0)) z := by
        split
        · have : z = lo := by omega
          subst this
          exact b_is_c _
        · exact b_is_var hv
      cases lg with
      | false =>
        obtain ⟨w, rfl, rfl⟩ := h1
        exact ⟨w, rfl, hz⟩
      | true =>
        obtain ⟨w, rfl, rfl⟩ := h1
        exact ⟨w, rfl, hz⟩
  | .inr (.inl k) :: as, y :: ys, zs, pre, h => by
    have ih := b_eA_ok pre h.2
    exact ⟨ih.1, ih.2.1, h.1, ih.2.2⟩
  | .inr (.inr k) :: as, y :: ys, zs, pre, h => by
    have ih := b_eA_ok pre h.2
    exact ⟨ih.1, ih.2.1, h.1, ih.2.2⟩
  | [], _ :: _, _, _, h => h.elim
  | .inl _ :: _, [], _, _, h => h.elim
  | .inr (.inl _) :: _, [], _, _, h => h.elim
  | .inr (.inr _) :: _, [], _, _, h => h.elim
  | .inl _ :: _, _ :: _, [], _, h => h.elim
/-- a checked contract holds -/
theorem b_chk_ok {hk : b_Hk} (hH : bg_Hk I F hk) (hsG : ∀ M ∈ q_gM G, q_srt (q_mC M) = true) (hF : bg_F I fp F) {n : Nat} {c : b_Con} {inl : List Nat} {deps : List b_Con} {cuts : List (Nat × Nat × List Int)} {hs : List b_H} (h : b_chk hk G I fp n c inl deps cuts hs = true) (hd : ∀ d ∈ deps, bc_ok G I F d) : bc_ok G I F c := by
  intro M hM ys zs m ha hI hq
  unfold b_chk at h
  rw [hM] at h
  simp only [Bool.and_eq_true] at h
  obtain ⟨h0, hh⟩ := h
  have hsrt := hsG M (List.mem_of_getElem? hM)
  have claim : ∀ (N : Nat), ∀ x ∈ hs, ∀ T ∈ x.2.2.2, ∀ (z : Int), z ≤ N → ∀ l m, (∃ zs, bg_E F zs T.1 m ∧ bg_L zs T.2.1 l ∧ bi_M I m ∧ b_is zs T.2.2 z) → ∃ (k : Nat) (r : Option Value) (m1 : q_M), q_run G k M x.1 l [] m = some (r, m1) ∧ bc_P F I (inl, deps, cuts, c.2.2.2.1, ((b_eA c.2.1 0).2.2, c.2.2.1), hs, none) m r m1 := by
    intro N
    induction N with
    | zero =>
      intro x hx T hT z hz l m hst
      have h1 := List.all_eq_true.mp hh x hx
      split at h1
      rotate_left
      · cases h1
      rename_i cd hcd
      have h2 := List.all_eq_true.mp h1 T hT
      rw [Bool.and_eq_true] at h2
      obtain ⟨zs, e1, e2, e3, e4⟩ := hst
      obtain ⟨J, jl, d1, d2, d3⟩ := a_at_ok hcd (List.suffix_refl _)
      have hhd : bc_hd G F I (inl, deps, cuts, c.2.2.2.1, ((b_eA c.2.1 0).2.2, c.2.2.1), hs, some T.2.2) M (some z) := by
        intro y hy T' hT' l' m' ⟨zs', f1, f2, f3, f4⟩
        obtain ⟨b, f5, f6⟩ := f4 z rfl
        have h3 := List.all_eq_true.mp hh y hy
        split at h3
        rotate_left
        · cases h3
        have h4 := List.all_eq_true.mp h3 T' hT'
        rw [Bool.and_eq_true] at h4
        have := b_ent_ok f1.2.1 f1.2.2.1 h4.1 f5
        omega
      have K := b_from_ok hH hsG hF (Z := (inl, deps, cuts, c.2.2.2.1, ((b_eA c.2.1 0).2.2, c.2.2.1), hs, some T.2.2)) hd hhd h2.2 (m0 := m) (v := zs) (ps := [(M, x.1, l, [])]) (m := m) ⟨e1, ⟨⟨rfl, hsrt, ⟨J, jl, d1, d2, d3⟩, e2, trivial⟩, trivial⟩, e3, q_same.rf, fun f hf => by cases hf; rfl, e4⟩
      obtain ⟨k, r, m1, r1, r2⟩ := K
      exact ⟨k, r, m1, r1, r2⟩
    | succ N ih =>
      intro x hx T hT z hz l m hst
      have h1 := List.all_eq_true.mp hh x hx
      split at h1
      rotate_left
      · cases h1
      rename_i cd hcd
      have h2 := List.all_eq_true.mp h1 T hT
      rw [Bool.and_eq_true] at h2
      obtain ⟨zs, e1, e2, e3, e4⟩ := hst
      obtain ⟨J, jl, d1, d2, d3⟩ := a_at_ok hcd (List.suffix_refl _)
      have hhd : bc_hd G F I (inl, deps, cuts, c.2.2.2.1, ((b_eA c.2.1 0).2.2, c.2.2.1), hs, some T.2.2) M (some z) := by
        intro y hy T' hT' l' m' ⟨zs', f1, f2, f3, f4⟩
        obtain ⟨b, f5, f6⟩ := f4 z rfl
        exact ih y hy T' hT' b (by omega) l' m' ⟨zs', f1, f2, f3, f5⟩
      have K := b_from_ok hH hsG hF (Z := (inl, deps, cuts, c.2.2.2.1, ((b_eA c.2.1 0).2.2, c.2.2.1), hs, some T.2.2)) hd hhd h2.2 (m0 := m) (v := zs) (ps := [(M, x.1, l, [])]) (m := m) ⟨e1, ⟨⟨rfl, hsrt, ⟨J, jl, d1, d2, d3⟩, e2, trivial⟩, trivial⟩, e3, q_same.rf, fun f hf => by cases hf; rfl, e4⟩
      obtain ⟨k, r, m1, r1, r2⟩ := K
      exact ⟨k, r, m1, r1, r2⟩
  have hhd : bc_hd G F I (inl, deps, cuts, c.2.2.2.1, ((b_eA c.2.1 0).2.2, c.2.2.1), hs, none) M none := by
    intro y hy T' hT' l' m' ⟨zs', f1, f2, f3, _⟩
    have h3 := List.all_eq_true.mp hh y hy
    split at h3
    rotate_left
    · cases h3
    have h4 := List.all_eq_true.mp h3 T' hT'
    rw [Bool.and_eq_true] at h4
    have hex : ∃ z, b_is zs' T'.2.2 z := by
      have h5 := h4.1
      unfold b_ent at h5
      split at h5
      · rename_i p hp
        exact b_iv_ex f1.2.1 (by rw [hp]; rfl)
      · cases h5
    obtain ⟨z, hz⟩ := hex
    exact claim z.toNat y hy T' hT' z (by omega) l' m' ⟨zs', f1, f2, f3, hz⟩
  split at h0
  rotate_left
  · cases h0
  rename_i cd hcd
  obtain ⟨J, jl, d1, d2, d3⟩ := a_at_ok hcd (List.suffix_refl _)
  obtain ⟨a1, a2, a3⟩ := b_eA_ok [] ha
  simp only [List.nil_append, List.length_nil] at a1 a2 a3
  have K := b_from_ok hH hsG hF (Z := (inl, deps, cuts, c.2.2.2.1, ((b_eA c.2.1 0).2.2, c.2.2.1), hs, none)) hd hhd h0 (m0 := m) (v := zs) (ps := [(M, 0, lv_args 0 ys, [])]) (m := m) ⟨⟨a1.symm, a2, fun x hx => by (cases hx), fun o ho => by (cases ho), hq⟩, ⟨⟨rfl, hsrt, ⟨J, jl, d1, d2, d3⟩, b_lvs_ok 0 a3, trivial⟩, trivial⟩, hI, q_same.rf, fun f hf => by cases hf; rfl, trivial⟩
  obtain ⟨k, r, m1, r1, r2, r3, o, o1, o2⟩ := K
  refine ⟨k, r, m1, r1, r2, r3, o, o1, ?_⟩
  have close : ∀ (w : List Int) (z : Option Int) (ts : List b_Q), (∀ x, z = some x → w[(b_eA c.2.1 0).2.2]? = some x) → (∀ t ∈ ts, bc_tk F m1 (b_eA c.2.1 0).2.2 z t) → ∀ t ∈ ts, bg_Q F w m1 t := by
    intro w z ts hw h t ht
    obtain ⟨ys, y1, y2⟩ := h t ht
    refine ⟨ys, ?_, y1⟩
    refine g_2_mono (fun a y hy => ?_) y2
    rcases hy with ⟨e1, e2⟩ | ⟨x, e1, e2, e3⟩
    · exact ⟨0, by rw [e1]; rfl, by omega⟩
    · have := hw x e1
      exact ⟨1 * x + 0, by rw [e2]; exact b_vs_cons.mpr ⟨x, 0, this, rfl, rfl⟩, by omega⟩
  obtain ⟨ou, ots⟩ := o
  unfold bc_out
  simp only at o2 ⊢
  cases ou with
  | none =>
    cases r with
    | none => exact close zs none _ (fun x hx => by cases hx) o2
    | some y => exact o2.elim
  | some b =>
    obtain ⟨lg, lo, hi⟩ := b
    cases r with
    | none => exact o2.elim
    | some y =>
      obtain ⟨z, z1, z2, z3, z4⟩ := o2
      exact ⟨z, z1, z2, z3, close (zs ++ [z]) (some z) _ (fun x hx => by cases hx; rw [a1]; simp) z4⟩
end BCON

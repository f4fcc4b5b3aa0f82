section GFIN
variable {G : q_G} {b L : Nat} {xs : Nat → Int32} {ML : q_MI} {P : Int32 → q_M → Prop}
theorem q_Kt_step {M : q_MI} {pc pc1 : Nat} {l l1 : q_L} {st st1 : List Value} {m m1 : q_M} {fs : List q_Fr} (hr : fs ≠ [] → ∀ n, q_run G (n + 1) M pc l st m = q_run G n M pc1 l1 st1 m1) (hl : fs = [] → ∀ n, q_lrun G b L xs ML (n + 1) pc l st m = q_lrun G b L xs ML n pc1 l1 st1 m1)
    (h : q_Kt G b L xs ML P ((M, pc1, l1, st1) :: fs) none m1) : q_Kt G b L xs ML P ((M, pc, l, st) :: fs) none m := by
  cases fs with
  | nil =>
    obtain ⟨n, v, qF, h1, h2⟩ := h
    exact ⟨n + 1, v, qF, (hl rfl n).trans h1, h2⟩
  | cons f fs =>
    obtain ⟨n, r1, m2, h1, h2⟩ := h
    exact ⟨n + 1, r1, m2, (hr (by simp) n).trans h1, h2⟩
theorem q_Kt_call {M M1 : q_MI} {pc pc1 : Nat} {l lv : q_L} {st rest : List Value} {m : q_M} {fs : List q_Fr}
    (hr : fs ≠ [] → ∀ n r m1, q_run G n M1 0 lv [] m = some (r, m1) → q_run G (n + 1) M pc l st m = q_run G n M pc1 l (r.toList ++ rest) m1) (hl : fs = [] → ∀ n r m1, q_run G n M1 0 lv [] m = some (r, m1) → q_lrun G b L xs ML (n + 1) pc l st m = q_lrun G b L xs ML n pc1 l (r.toList ++ rest) m1)
    (h : q_Kt G b L xs ML P ((M1, 0, lv, []) :: (M, pc1, l, rest) :: fs) none m) : q_Kt G b L xs ML P ((M, pc, l, st) :: fs) none m := by
  obtain ⟨n, r, m1, h1, h2⟩ := h
  cases fs with
  | nil =>
    obtain ⟨n2, v, qF, h3, h4⟩ := h2
    have e1 := q_fuel n (n + n2) _ _ _ _ _ _ (by omega) h1
    have e2 := q_lfuel n2 (n + n2) _ _ _ _ _ (by omega) h3
    exact ⟨n + n2 + 1, v, qF, (hl rfl _ _ _ e1).trans e2, h4⟩
  | cons f fs =>
    obtain ⟨n2, r2, m2, h3, h4⟩ := h2
    have e1 := q_fuel n (n + n2) _ _ _ _ _ _ (by omega) h1
    have e2 := q_fuel n2 (n + n2) _ _ _ _ _ _ (by omega) h3
    exact ⟨n + n2 + 1, r2, m2, (hr (by simp) _ _ _ e1).trans e2, h4⟩
theorem q_Kt_ret {M M2 : q_MI} {pc pc2 : Nat} {l l2 : q_L} {st st2 : List Value} {m : q_M} {r : Option Value} {fs : List q_Fr} (hr : q_run G 1 M pc l st m = some (r, m)) (h : q_Kt G b L xs ML P ((M2, pc2, l2, r.toList ++ st2) :: fs) none m) : q_Kt G b L xs ML P ((M, pc, l, st) :: (M2, pc2, l2, st2) :: fs) none m := by
  refine ⟨1, r, m, hr, ?_⟩
  cases fs with
  | nil => exact h
  | cons f fs => exact h
theorem g_nxt {M : q_MI} {tl : List q_I} {fs : List a_F} {S : List (a_N × a_N)} {m : List a_C} : ∀ {ps : List a_P} {Ks : List a_K}, a_nxt M tl fs S m ps = some Ks → ∀ p ∈ ps, ∃ c, a_at M tl p.2.2.1 = some c ∧ ((p.1, p.2.1, S, (M, c, p.2.2.2.1, p.2.2.2.2) :: fs, m) : a_K) ∈ Ks
  | [], Ks, h, p, hp => by cases hp
  | q :: ps, Ks, h, p, hp => by
    unfold a_nxt at h
    split at h
    · rename_i c l h1 h2
      cases h
      rcases List.mem_cons.mp hp with rfl | hp
      · exact ⟨c, h1, List.mem_cons_self⟩
      · obtain ⟨c2, e1, e2⟩ := g_nxt h2 p hp
        exact ⟨c2, e1, List.mem_cons_of_mem _ e2⟩
    · cases h
theorem g_last {α : Type} {P : α → Prop} {f g : α} {fs : List α} (h : ∀ z, (f :: fs).getLast? = some z → P z) (hg : fs = [] → P f → P g) : ∀ z, (g :: fs).getLast? = some z → P z := by
  intro z hz
  cases fs with
  | nil =>
    simp at hz
    subst hz
    exact hg rfl (h f (by simp))
  | cons a fs =>
    refine h z ?_
    rw [List.getLast?_cons_cons] at hz ⊢
    exact hz
theorem g_step {mx ml : Nat} (hsG : ∀ M ∈ q_gM G, q_srt (q_mC M) = true) {K : a_K} {Ks : List a_K} (h : a_step G mx ml K = some Ks) {v : List Int} {ps : List q_Fr} {m : q_M} (hK : g_K ML b L xs v K ps m) :
    q_Kt G b L xs ML (fun z qF => z = 1 ∧ qF.length ≤ mx ∧ q_sl qF ≤ ml) ps none m ∨ ∃ K1 ∈ Ks, ∃ (v1 : List Int) (ps1 : List q_Fr) (m1 : q_M), g_K ML b L xs v1 K1 ps1 m1 ∧ (q_Kt G b L xs ML (fun z qF => z = 1 ∧ qF.length ≤ mx ∧ q_sl qF ≤ ml) ps1 none m1 → q_Kt G b L xs ML (fun z qF => z = 1 ∧ qF.length ≤ mx ∧ q_sl qF ≤ ml) ps none m) := by
  obtain ⟨k, B, S, fs0, ma⟩ := K
  obtain ⟨hk, hB, hS, hF, hM, h0, hL, hlast⟩ := hK
  simp only at hk hB hS hF hM
  unfold a_step at h
  split at h
  · cases h
  · cases h
  rename_i k' B' S' M pc raw len i pos tl la sa fs ma' heq
  cases heq
  obtain ⟨p0, pfs, rfl, hf, hfs⟩ := g_ca hF
  obtain ⟨M0, pc0, l, st⟩ := p0
  obtain ⟨e1, hsrt, ⟨J, jl, e2, e3, hsuf⟩, hl, hs⟩ := hf
  simp only at e1 e2 e3 hsrt hsuf hl hs
  subst e1
  cases e2
  simp only at e3
  subst e3
  have hfd := q_fd_suf hsrt hsuf
  simp only at hfd
  have htl : tl <:+ q_mC M := (List.suffix_cons _ tl).trans hsuf
  have hlen : fs.length = pfs.length := g_2_len hfs
  have hnil : pfs = [] → fs = [] := fun q => by rw [q] at hlen; exact List.eq_nil_of_length_eq_zero hlen
  have hnil2 : fs = [] → pfs = [] := fun q => by rw [q] at hlen; exact List.eq_nil_of_length_eq_zero hlen.symm
  have hML : pfs = [] → M = ML := fun q => by
    subst q
    exact hlast (M, pc, l, st) (by simp)
  have hfdL : pfs = [] → q_fd (q_mC ML) pc = some (pc, raw, len, i, pos) := fun q => by rw [← hML q]; exact hfd
  split at h
  · -- pure
    rename_i hg
    split at h
    rotate_left
    · cases h
    rename_i ps1 hp
    obtain ⟨p, hpm, t, l1, st1, r1, r2, r3, r4, r5⟩ := g_pure hp hk hB hl hs
    obtain ⟨c, c1, c2⟩ := g_nxt h p hpm
    obtain ⟨J1, jl1, d1, d2, d3⟩ := a_at_ok c1 htl
    refine Or.inr ⟨_, c2, v ++ t, (M, p.2.2.1, l1, st1) :: pfs, m, ⟨r2, r3, g_S_ext hS, ⟨⟨rfl, hsrt, ⟨J1, jl1, d1, d2, d3⟩, r4, r5⟩, g_2_mono (fun _ _ => g_F_ext) hfs⟩, g_M_ext hM, g_0_ext h0, hL, g_last hlast (fun _ q => q)⟩, q_Kt_step (fun _ n => ?_) (fun q n => ?_)⟩
    · conv => lhs; unfold q_run
      simp only [hfd, hg, r1]
    · have e := hML q
      subst e
      conv => lhs; unfold q_lrun
      simp only [hfd, hg, r1]
  · -- memory, or the script
    rename_i hg
    split at h
    rotate_left
    · cases h
    rename_i c c1
    obtain ⟨J1, jl1, d1, d2, d3⟩ := a_at_ok c1 htl
    split at h
    · -- the law
      have hp0 := hnil2 rfl
      subst hp0
      split at h
      rotate_left
      · cases h
      rename_i k1 B1 S1 st1a hp
      cases h
      obtain ⟨t, st1, r1, r2, r3, r4, r5⟩ := g_scr hp hk hB hS h0 hL hs
      refine Or.inr ⟨_, List.mem_singleton.mpr rfl, v ++ t, [(M, pc + len, l, st1)], m, ⟨r2, r3, r4, ⟨⟨rfl, hsrt, ⟨J1, jl1, d1, d2, d3⟩, g_L_ext hl, r5⟩, trivial⟩, g_M_ext hM, g_0_ext h0, hL, g_last hlast (fun _ q => q)⟩, q_Kt_step (fun q => absurd rfl q) (fun q n => ?_)⟩
      have e := hML q
      subst e
      conv => lhs; unfold q_lrun
      simp only [hfd, hg, r1]
    · rename_i f1 fs1
      split at h
      rotate_left
      · cases h
      rename_i ps1 hp
      cases h
      obtain ⟨p, hpm, t, st1, m1, r1, r2, r3, r4, r5⟩ := g_mem hp hk hB hs hM
      refine Or.inr ⟨_, List.mem_map.mpr ⟨p, hpm, rfl⟩, v ++ t, (M, pc + len, l, st1) :: pfs, m1, ⟨r2, r3, g_S_ext hS, ⟨⟨rfl, hsrt, ⟨J1, jl1, d1, d2, d3⟩, g_L_ext hl, r4⟩, g_2_mono (fun _ _ => g_F_ext) hfs⟩, r5, g_0_ext h0, hL, g_last hlast (fun _ q => q)⟩, q_Kt_step (fun _ n => ?_) (fun q n => ?_)⟩
      · conv => lhs; unfold q_run
        simp only [hfd, hg, r1]
      · exact absurd (hnil q) (by simp)
  · -- a new cell
    rename_i hg
    split at h
    rotate_left
    · cases h
    rename_i c st1a x c1 hp
    cases h
    obtain ⟨J1, jl1, d1, d2, d3⟩ := a_at_ok c1 htl
    obtain ⟨st1, y, r1, r2, r3⟩ := g_cel hp hB hs hM
    refine Or.inr ⟨_, List.mem_singleton.mpr rfl, v, (M, pc + len, l, st1) :: pfs, m ++ [y], ⟨hk, hB, hS, ⟨⟨rfl, hsrt, ⟨J1, jl1, d1, d2, d3⟩, hl, r2⟩, hfs⟩, g_2_app hM ⟨r3, trivial⟩, h0, hL, g_last hlast (fun _ q => q)⟩, q_Kt_step (fun _ n => ?_) (fun q n => ?_)⟩
    · conv => lhs; unfold q_run
      simp only [hfd, hg, r1]
    · have e := hML q
      subst e
      conv => lhs; unfold q_lrun
      simp only [hfd, hg, r1]
  · -- call or return
    rename_i hg
    split at h
    · rename_i j hj
      split at h
      rotate_left
      · cases h
      rename_i c M1 as rest c1 hp
      split at h
      rotate_left
      · cases h
      rename_i c2 hc2
      cases h
      obtain ⟨J1, jl1, d1, d2, d3⟩ := a_at_ok c1 htl
      obtain ⟨J2, jl2, d4, d5, d6⟩ := a_at_ok hc2 (List.suffix_refl _)
      obtain ⟨vs, rs, r1, r2, r3, r4⟩ := g_call hp hs hM
      refine Or.inr ⟨_, List.mem_singleton.mpr rfl, v, (M1, 0, lv_args 0 vs, []) :: (M, pc + len, l, rs) :: pfs, m, ⟨hk, hB, hS, ⟨⟨rfl, hsG M1 (List.mem_of_getElem? r4), ⟨J2, jl2, d4, d5, d6⟩, g_lvs 0 r2, trivial⟩, ⟨rfl, hsrt, ⟨J1, jl1, d1, d2, d3⟩, hl, r3⟩, hfs⟩, hM, h0, hL, fun z hz => ?_⟩, q_Kt_call (fun _ n r m1 hr => ?_) (fun q n r m1 hr => ?_)⟩
      · rw [List.getLast?_cons_cons] at hz
        exact g_last (P := fun f : q_Fr => f.1 = ML) (g := (M, pc + len, l, rs)) hlast (fun _ q => q) z hz
      · conv => lhs; unfold q_run
        simp only [hfd, hg, hj, r1, hr]
      · have e := hML q
        subst e
        conv => lhs; unfold q_lrun
        simp only [hfd, hg, hj, r1, hr]
    · rename_i hj
      split at h
      · have hp0 := hnil2 rfl
        subst hp0
        split at h
        rotate_left
        · cases h
        rename_i x
        split at h
        rotate_left
        · cases h
        rename_i hc
        obtain ⟨y, ys, rfl, hy, hs1⟩ := g_ca hs
        replace hs := hs1
        have := g_na hs
        subst this
        obtain ⟨w, rfl, hy⟩ := hy
        have hi := g_iv hB (x := (false, x)) hy (g_o32 w)
        have hw : w = 1 := Int32.toInt_inj.mp (by rw [show (1 : Int32).toInt = 1 by decide]; omega)
        left
        refine ⟨1, w, m, ?_, hw, by rw [← g_2_len hM]; exact hc.2.2.1, by rw [← g_sl hM]; exact hc.2.2.2⟩
        have e := hML rfl
        subst e
        show q_lrun G b L xs M 1 pc l [.int w] m = _
        unfold q_lrun
        simp only [hfd, hg, hj]
      · rename_i M2 c2 l2 st2 fs2
        split at h
        rotate_left
        · cases h
        rename_i ra hr
        cases h
        obtain ⟨q0, qs, rfl, hf2, hfs2⟩ := g_ca hfs
        obtain ⟨M3, pc3, l3, st3⟩ := q0
        obtain ⟨e1, hsrt2, hcd2, hl2, hs2⟩ := hf2
        simp only at e1 hsrt2 hcd2 hl2 hs2
        subst e1
        obtain ⟨r, r1, r2⟩ := g_ret hr hB hs
        refine Or.inr ⟨_, List.mem_singleton.mpr rfl, v, (M2, pc3, l3, r.toList ++ st3) :: qs, m, ⟨hk, hB, hS, ⟨⟨rfl, hsrt2, hcd2, hl2, g_2_app r2 hs2⟩, hfs2⟩, hM, h0, hL, fun z hz => ?_⟩, q_Kt_ret ?_⟩
        · refine g_last (P := fun f : q_Fr => f.1 = ML) (f := (M2, pc3, l3, st3)) (g := (M2, pc3, l3, r.toList ++ st3)) (fun z hz => hlast z (by rw [List.getLast?_cons_cons]; exact hz)) (fun _ q => q) z hz
        · unfold q_run
          simp only [hfd, hg, hj, r1]
  · -- a constant
    rename_i hg0 hg1 hg2 hg3
    split at h
    rotate_left
    · cases h
    rename_i c st1a c1 hp
    cases h
    obtain ⟨J1, jl1, d1, d2, d3⟩ := a_at_ok c1 htl
    obtain ⟨st1, r1, r2⟩ := g_lk hp hs
    refine Or.inr ⟨_, List.mem_singleton.mpr rfl, v, (M, pc + len, l, st1) :: pfs, m, ⟨hk, hB, hS, ⟨⟨rfl, hsrt, ⟨J1, jl1, d1, d2, d3⟩, hl, r2⟩, hfs⟩, hM, h0, hL, g_last hlast (fun _ q => q)⟩, q_Kt_step (fun _ n => ?_) (fun q n => ?_)⟩
    · conv => lhs; unfold q_run
      simp only [hfd, r1]
    · have e := hML q
      subst e
      conv => lhs; unfold q_lrun
      simp only [hfd, r1]
theorem g_run {mx ml : Nat} (hsG : ∀ M ∈ q_gM G, q_srt (q_mC M) = true) : ∀ (n : Nat) (K : a_K), a_run G mx ml n K = true → ∀ (v : List Int) (ps : List q_Fr) (m : q_M), g_K ML b L xs v K ps m → q_Kt G b L xs ML (fun z qF => z = 1 ∧ qF.length ≤ mx ∧ q_sl qF ≤ ml) ps none m
  | 0, K, h, _, _, _, _ => by cases h
  | n + 1, K, h, v, ps, m, hK => by
    have h : (match a_step G mx ml K with | none => false | some [] => true | some [K1] => a_run G mx ml n K1 | some Ks => Ks.all (a_run G mx ml n)) = true := h
    obtain ⟨Ks, hs, h⟩ : ∃ Ks, a_step G mx ml K = some Ks ∧ Ks.all (a_run G mx ml n) = true := by
      split at h
      · cases h
      · rename_i hs
        exact ⟨_, hs, rfl⟩
      · rename_i hs
        exact ⟨_, hs, by simpa using h⟩
      · rename_i hs
        exact ⟨_, hs, h⟩
    rcases g_step hsG hs hK with h1 | ⟨K1, hm, v1, ps1, m1, hK1, hgo⟩
    · exact h1
    · exact hgo (g_run hsG n K1 (List.all_eq_true.mp h K1 hm) v1 ps1 m1 hK1)
end GFIN

theorem b_ivl_ex {v : List Int} {B : a_B} (hB : g_B v B) : ∀ {l : List (Nat × Int)} {p : Int × Int}, b_ivl B l = some p → ∃ s, b_vs v l = some s
  | [], p, _ => ⟨0, rfl⟩
  | q :: l, p, h => by
    unfold b_ivl at h
    split at h
    rotate_left
    · cases h
    rename_i r s h1 h2
    obtain ⟨w, w1, -⟩ := g_bd hB h1
    obtain ⟨z, z1⟩ := b_ivl_ex hB h2
    exact ⟨_, b_vs_cons.mpr ⟨w, z, w1, z1, rfl⟩⟩
theorem b_iv_ex {v : List Int} {B : a_B} (hB : g_B v B) {t : b_T} (h : (b_iv B t).isSome = true) : ∃ z, b_is v t z := by
  unfold b_iv at h
  split at h
  · rename_i s hs
    obtain ⟨z, hz⟩ := b_ivl_ex hB hs
    exact ⟨_, z, hz, rfl⟩
  · cases h
theorem b_all_ex {v : List Int} {B : a_B} (hB : g_B v B) : ∀ {s : List b_T}, s.all (fun t => (b_iv B t).isSome) = true → ∃ zs, g_2 (b_is v) s zs
  | [], _ => ⟨[], trivial⟩
  | t :: s, h => by
    rw [List.all_cons, Bool.and_eq_true] at h
    obtain ⟨z, hz⟩ := b_iv_ex hB h.1
    obtain ⟨zs, hzs⟩ := b_all_ex hB h.2
    exact ⟨z :: zs, hz, hzs⟩
theorem b_mks_len {l : List (Nat × b_T)} : ∀ (n i : Nat), (b_mks l i n).length = n
  | 0, i => rfl
  | n + 1, i => by
    unfold b_mks
    rw [List.length_cons, b_mks_len n]
section BRUN
variable {F : Nat → List Int → q_M → Prop} {fp : Nat → b_W} {v : List Int} {E : b_E} {m : q_M} {I : List b_I} {G : q_G}
theorem b_lgs {lg lg1 : Bool} (h : (match lg, lg1 with | true, true => true | false, false => true | _, _ => false) = true) : lg = lg1 := by
  cases lg <;> cases lg1 <;> first | rfl | cases h
theorem b_okl_ok (hE : bg_E F v E m) {s : List b_T} {zs : List Int} (hs : g_2 (b_is v) s zs) {la : b_L} {l : q_L} (hl : bg_L v la l) : ∀ {tl : b_L}, b_okl E s la tl = true → bg_L zs tl l
  | [], _ => fun k x h => by simp [b_get] at h
  | (j, x) :: tl, h => by
    unfold b_okl at h
    rw [Bool.and_eq_true] at h
    have ih := b_okl_ok hE hs hl h.2
    intro k y hy
    unfold b_get at hy
    split at hy
    rotate_left
    · exact ih k y hy
    rename_i hk
    have hk := Nat.eq_of_beq_eq_true hk
    simp only at hk
    subst hk
    cases hy
    have h1 := h.1
    split at h1
    · rename_i lg t lg1 w hg
      rw [Bool.and_eq_true] at h1
      have := b_lgs h1.1
      subst this
      have h2 := h1.2
      split at h2
      rotate_left
      · cases h2
      rename_i c hc
      obtain ⟨z, z1, z2⟩ := b_sb_ok hs hc
      obtain ⟨y, y1, y2⟩ := hl _ _ hg
      refine ⟨y, y1, ?_⟩
      cases lg with
      | false =>
        obtain ⟨u, rfl, u1⟩ := y2
        have := b_eqv_ok hE h2 z2 u1
        subst this
        exact ⟨u, rfl, z1⟩
      | true =>
        obtain ⟨u, rfl, u1⟩ := y2
        have := b_eqv_ok hE h2 z2 u1
        subst this
        exact ⟨u, rfl, z1⟩
    · rename_i a b hg
      have := Nat.eq_of_beq_eq_true h1
      subst this
      exact hl _ _ hg
    · rename_i a b hg
      have := Nat.eq_of_beq_eq_true h1
      subst this
      exact hl _ _ hg
    · cases h1
theorem b_okm_ok (hE : bg_E F v E m) {s : List b_T} {zs : List Int} (hs : g_2 (b_is v) s zs) : ∀ {tl : List b_O}, b_okm E s tl = true → ∀ o ∈ tl, bg_O zs m o
  | [], _, o, ho => by cases ho
  | p :: tl, h, o, ho => by
    unfold b_okm at h
    rw [Bool.and_eq_true] at h
    rcases List.mem_cons.mp ho with rfl | ho
    rotate_left
    · exact b_okm_ok hE hs h.2 o ho
    have h1 := h.1
    split at h1
    rotate_left
    · cases h1
    rename_i w he hw
    rw [Bool.and_eq_true] at h1
    have hlg := b_lgs h1.1
    have h2 := h1.2
    split at h2
    rotate_left
    · cases h2
    rename_i c hc
    obtain ⟨z, z1, z2⟩ := b_sb_ok hs hc
    obtain ⟨j, j1, j2⟩ := hE.2.2.2.1 _ (b_mo_ok hw)
    simp only at j1 j2
    refine ⟨j, ?_, ?_⟩
    · obtain ⟨s1, e1, e2⟩ := j1
      rw [he] at e1
      cases e1
      exact ⟨0, by rw [he]; rfl, e2⟩
    · obtain ⟨oc, ot, olg, oe⟩ := o
      obtain ⟨wlg, we⟩ := w
      simp only at hlg h2 z1 j2 ⊢
      subst hlg
      cases olg with
      | false =>
        obtain ⟨u, u1, u2⟩ := j2
        have := b_eqv_ok hE h2 z2 u2
        subst this
        exact ⟨u, u1, z1⟩
      | true =>
        obtain ⟨u, u1, u2⟩ := j2
        have := b_eqv_ok hE h2 z2 u2
        subst this
        exact ⟨u, u1, z1⟩
def bg_mu (v : List Int) (mu : Option b_T) (z0 : Option Int) : Prop := match mu, z0 with
  | none, none => True
  | some u, some z => b_is v u z
  | _, _ => False
theorem b_mu_ext {mu : Option b_T} {z0 : Option Int} {t : List Int} (h : bg_mu v mu z0) : bg_mu (v ++ t) mu z0 := by
  match mu, z0, h with
  | none, none, _ => trivial
  | some u, some z, hz => exact b_is_ext (show b_is v u z from hz)
/-- the state is one of the template's -/
def bg_Te (F : Nat → List Int → q_M → Prop) (I : List b_I) (T : b_Te) (z0 : Option Int) (l : q_L) (m : q_M) : Prop := ∃ zs, bg_E F zs T.1 m ∧ bg_L zs T.2.1 l ∧ bi_M I m ∧ ∀ a, z0 = some a → ∃ b, b_is zs T.2.2 b ∧ b < a
theorem b_fits_ok {hk : b_Hk} (hH : bg_Hk I F hk) (hE : bg_E F v E m) (hM : bi_M I m) {la : b_L} {l : q_L} (hl : bg_L v la l) {mu0 : Option b_T} {z0 : Option Int} (hmu : bg_mu v mu0 z0) {T : b_Te} (h : b_fits hk E la mu0 T = true) : bg_Te F I T z0 l m := by
  unfold b_fits at h
  simp only [Bool.and_eq_true] at h
  obtain ⟨⟨⟨⟨⟨⟨h1, h2⟩, h3⟩, h4⟩, h5⟩, h6⟩, h7⟩ := h
  generalize hsd : b_mks (b_sgl la T.2.1 ++ (b_sgm E.2.2.2.1 T.1.2.2.2.1 ++ b_sgt E.2.2.2.2 T.1.2.2.2.2)) 0 T.1.1 = s at h1 h2 h3 h4 h5 h6 h7
  have hlen : s.length = T.1.1 := by rw [← hsd]; exact b_mks_len _ _
  obtain ⟨zs, hs⟩ := b_all_ex hE.2.1 h1
  refine ⟨zs, ⟨?_, ?_, ?_, b_okm_ok hE hs h3, b_tks_ok hH hE hM hs h4⟩, b_okl_ok hE hs hl h2, hM, ?_⟩
  · rw [← g_2_len hs]
    exact hlen
  · intro q hq
    have h8 := List.all_eq_true.mp h5 q hq
    split at h8
    rotate_left
    · cases h8
    rename_i t ht
    obtain ⟨w, w1, w2⟩ := g_2_get hs ht
    have := b_inb_ok hE h8 w2
    exact ⟨w, w1, this.1, this.2⟩
  · intro c hc
    have h8 := List.all_eq_true.mp h6 c hc
    split at h8
    rotate_left
    · cases h8
    rename_i t ht
    obtain ⟨z, z1, z2⟩ := b_sb_ok hs ht
    exact ⟨z, z1, b_ent_ok hE.2.1 hE.2.2.1 h8 z2⟩
  · intro a ha
    subst ha
    split at h7
    · exact hmu.elim
    · rename_i u
      split at h7
      rotate_left
      · cases h7
      rename_i t ht
      obtain ⟨z, z1, z2⟩ := b_sb_ok hs ht
      have := b_ent_ok hE.2.1 hE.2.2.1 h7 (b_is_ad (k := -1) (b_is_m1 hmu) z2)
      exact ⟨z, z1, by omega⟩
theorem b_tou_ok (hM : bi_M I m) : ∀ {ls : List (Nat × Nat)} {v : List Int} {E : b_E}, bg_E F v E m → ∃ t, bg_E F (v ++ t) (b_tou I ls E) m
  | [], v, E, hE => ⟨[], by rw [List.append_nil]; exact hE⟩
  | (a, j) :: ls, v, E, hE => by
    unfold b_tou
    split
    rotate_left
    · rename_i t0 n ex lo hi hI
      split
      rotate_left
      · exact b_tou_ok hM hE
      rename_i hj
      obtain ⟨y, hm, f, rfl, hf1, hf2, -⟩ := bi_get hM hI
      have hb := b_bnd_ok hE.2.1 (x := b_c (j : Int)) (b_is_c _) hj hf1 hf2
      have key : bg_X I [] F v m [b_rd E a (b_c (j : Int)) false (b_bnd E.2.1 ex lo hi (b_c (j : Int))).1 (b_bnd E.2.1 ex lo hi (b_c (j : Int))).2 []] (some ([q_at m a j], m)) :=
        b_rd_ok (c := a) (j := j) (lg := false) (z := (f j).toInt) hE hM (b_is_c _) hb.1 hb.2 ⟨f j, q_at_int hm, rfl⟩ (r := []) (st := []) trivial rfl
      obtain ⟨y, hy, t, st1, m1, r1, r2, r3, r4, r5⟩ := key
      have := List.mem_singleton.mp hy
      subst this
      cases r1
      obtain ⟨t2, h2⟩ := b_tou_ok hM r2 (ls := ls)
      exact ⟨t ++ t2, by rw [← List.append_assoc]; exact h2⟩
    · exact b_tou_ok hM hE
    rename_i ci fs hI
    split
    rotate_left
    · exact b_tou_ok hM hE
    rename_i lg lo hi hf
    obtain ⟨y, hm, vs, rfl, hvs⟩ := bi_get hM hI
    obtain ⟨x, hx, hxv⟩ := g_2_get hvs hf
    have e1 : q_at m a j = x := by rw [q_at_obj hm, List.getD_eq_getElem?_getD, hx]; rfl
    have key : bg_X I [] F v m [b_rd E a (b_c (j : Int)) lg lo hi []] (some ([q_at m a j], m)) := by
      cases lg with
      | false =>
        obtain ⟨z, rfl, z1, z2⟩ := hxv
        exact b_rd_ok (c := a) (j := j) (lg := false) (z := z.toInt) hE hM (b_is_c _) z1 z2 ⟨z, e1, rfl⟩ (r := []) (st := []) trivial rfl
      | true =>
        obtain ⟨z, rfl, z1, z2⟩ := hxv
        exact b_rd_ok (c := a) (j := j) (lg := true) (z := z.toInt) hE hM (b_is_c _) z1 z2 ⟨z, e1, rfl⟩ (r := []) (st := []) trivial rfl
    obtain ⟨y, hy, t, st1, m1, r1, r2, r3, r4, r5⟩ := key
    have := List.mem_singleton.mp hy
    subst this
    cases r1
    obtain ⟨t2, h2⟩ := b_tou_ok hM r2 (ls := ls)
    exact ⟨t ++ t2, by rw [← List.append_assoc]; exact h2⟩
theorem b_tkl_ok {id : Nat} {x : b_T} : ∀ {tk : List b_Q}, (∀ t ∈ tk, bg_Q F v m t) → b_tkl tk id = some x → ∃ z, b_is v x z
  | [], _, h => by cases h
  | u :: tk, hq, h => by
    unfold b_tkl at h
    split at h
    · obtain ⟨zs, z1, -⟩ := hq u List.mem_cons_self
      have hx : x ∈ u.2 := List.mem_of_getLast? h
      obtain ⟨i, hi⟩ := List.getElem?_of_mem hx
      obtain ⟨z, -, hz⟩ := g_2_get z1 hi
      exact ⟨z, hz⟩
    · exact b_tkl_ok (fun t ht => hq t (List.mem_cons_of_mem _ ht)) h
theorem b_spl_ok {la : b_L} {l : q_L} (hl : bg_L v la l) {tk : List b_Q} (htk : ∀ t ∈ tk, bg_Q F v m t) : ∀ {cs : List (Nat × Int)} {qs : List (a_B × List b_T)}, (∃ q ∈ qs, g_B v q.1 ∧ bg_C v q.2) → ∃ q ∈ b_spl la tk cs qs, g_B v q.1 ∧ bg_C v q.2
  | [], qs, h => h
  | (k, c) :: cs, qs, h => by
    unfold b_spl
    split
    · rename_i x hx
      have hz : ∃ z, b_is v x z := by
        unfold b_spx at hx
        split at hx
        · rename_i lg y hg
          cases hx
          obtain ⟨y, y1, y2⟩ := hl _ _ hg
          cases lg with
          | false => obtain ⟨z, -, hz⟩ := y2; exact ⟨_, hz⟩
          | true => obtain ⟨z, -, hz⟩ := y2; exact ⟨_, hz⟩
        · cases hx
        · exact b_tkl_ok htk hx
      obtain ⟨z, hz⟩ := hz
      exact b_spl_ok hl htk (b_cut_ok hz h)
    · exact b_spl_ok hl htk h
theorem b_arr_ok {hk : b_Hk} (hH : bg_Hk I F hk) (hE : bg_E F v E m) (hM : bi_M I m) {la : b_L} {l : q_L} (hl : bg_L v la l) {mu0 : Option b_T} {z0 : Option Int} (hmu : bg_mu v mu0 z0) {h : b_H} (ha : b_arr hk I E la mu0 h = true) : ∃ T ∈ h.2.2.2, bg_Te F I T z0 l m := by
  obtain ⟨q, q1, q2, q3⟩ := b_spl_ok hl hE.2.2.2.2 (cs := h.2.1) (qs := [(E.2.1, E.2.2.1)]) ⟨_, List.mem_singleton.mpr rfl, hE.2.1, hE.2.2.1⟩
  have hb := List.all_eq_true.mp ha q q1
  simp only at hb
  have hE2 : bg_E F v (E.1, q.1, q.2, E.2.2.2) m := ⟨hE.1, q2, q3, hE.2.2.2⟩
  obtain ⟨t, h2⟩ := b_tou_ok hM hE2 (ls := h.2.2.1)
  rw [Bool.or_eq_true] at hb
  rcases hb with hb | hb
  · exact absurd hb (hH.2.2.2.1 _ _ m h2 hM)
  obtain ⟨T, T1, T2⟩ := List.any_eq_true.mp hb
  exact ⟨T, T1, b_fits_ok hH h2 hM (bg_L_ext hl) (b_mu_ext hmu) T2⟩
def bg_Fr (v : List Int) (f : b_F) (p : q_Fr) : Prop := f.1 = p.1 ∧ q_srt (q_mC f.1) = true ∧ (∃ J l, f.2.1 = J :: l ∧ J.1 = p.2.1 ∧ f.2.1 <:+ q_mC f.1) ∧ bg_L v f.2.2.1 p.2.2.1 ∧ bg_s v f.2.2.2 p.2.2.2
theorem bg_Fr_ext {t : List Int} {f : b_F} {p : q_Fr} (h : bg_Fr v f p) : bg_Fr (v ++ t) f p := ⟨h.1, h.2.1, h.2.2.1, bg_L_ext h.2.2.2.1, bg_s_ext h.2.2.2.2⟩
/-- frames: with r given back to the topmost, the last comes to its end as P says -/
def q_Kp (G : q_G) (P : Option Value → q_M → Prop) : List q_Fr → Option Value → q_M → Prop
  | [], r, m => P r m
  | f :: fs, r, m => ∃ (n : Nat) (r1 : Option Value) (m1 : q_M), q_run G n f.1 f.2.1 f.2.2.1 (r.toList ++ f.2.2.2) m = some (r1, m1) ∧ q_Kp G P fs r1 m1
theorem q_Kp_step {P : Option Value → q_M → Prop} {M : q_MI} {pc pc1 : Nat} {l l1 : q_L} {st st1 : List Value} {m m1 : q_M} {fs : List q_Fr} (hr : ∀ n, q_run G (n + 1) M pc l st m = q_run G n M pc1 l1 st1 m1) (h : q_Kp G P ((M, pc1, l1, st1) :: fs) none m1) : q_Kp G P ((M, pc, l, st) :: fs) none m := by
  obtain ⟨n, r1, m2, h1, h2⟩ := h
  exact ⟨n + 1, r1, m2, (hr n).trans h1, h2⟩
theorem q_Kp_call {P : Option Value → q_M → Prop} {M M1 : q_MI} {pc pc1 : Nat} {l lv : q_L} {st rest : List Value} {m : q_M} {fs : List q_Fr} (hr : ∀ n r m1, q_run G n M1 0 lv [] m = some (r, m1) → q_run G (n + 1) M pc l st m = q_run G n M pc1 l (r.toList ++ rest) m1) (h : q_Kp G P ((M1, 0, lv, []) :: (M, pc1, l, rest) :: fs) none m) : q_Kp G P ((M, pc, l, st) :: fs) none m := by
  obtain ⟨n, r, m1, h1, n2, r2, m2, h3, h4⟩ := h
  have e1 := q_fuel n (n + n2) _ _ _ _ _ _ (by omega) h1
  have e2 := q_fuel n2 (n + n2) _ _ _ _ _ _ (by omega) h3
  exact ⟨n + n2 + 1, r2, m2, (hr _ _ _ e1).trans e2, h4⟩
theorem q_Kp_done {P : Option Value → q_M → Prop} {M M1 : q_MI} {pc pc1 n1 : Nat} {l lv : q_L} {st rest : List Value} {m m1 : q_M} {r : Option Value} {fs : List q_Fr} (hr : ∀ n r m1, q_run G n M1 0 lv [] m = some (r, m1) → q_run G (n + 1) M pc l st m = q_run G n M pc1 l (r.toList ++ rest) m1) (h1 : q_run G n1 M1 0 lv [] m = some (r, m1)) (h : q_Kp G P ((M, pc1, l, r.toList ++ rest) :: fs) none m1) : q_Kp G P ((M, pc, l, st) :: fs) none m := by
  refine q_Kp_call hr ⟨n1, r, m1, h1, ?_⟩
  obtain ⟨n, r2, m2, h3, h4⟩ := h
  exact ⟨n, r2, m2, h3, h4⟩
theorem q_Kp_ret {P : Option Value → q_M → Prop} {M M2 : q_MI} {pc pc2 : Nat} {l l2 : q_L} {st st2 : List Value} {m : q_M} {r : Option Value} {fs : List q_Fr} (hr : q_run G 1 M pc l st m = some (r, m)) (h : q_Kp G P ((M2, pc2, l2, r.toList ++ st2) :: fs) none m) : q_Kp G P ((M, pc, l, st) :: (M2, pc2, l2, st2) :: fs) none m := by
  obtain ⟨n, r2, m2, h3, h4⟩ := h
  exact ⟨1, r, m, hr, n, r2, m2, h3, h4⟩
/-- a token of the outcome -/
def bc_tk (F : Nat → List Int → q_M → Prop) (m : q_M) (nA : Nat) (z : Option Int) (t : b_Q) : Prop := ∃ ys, F t.1 ys m ∧ g_2 (fun (a : b_T) (y : Int) => (a.1 = [] ∧ y = a.2) ∨ ∃ w, z = some w ∧ a.1 = [(nA, 1)] ∧ y = w + a.2) t.2 ys
/-- what a method comes to -/
def bc_fin (F : Nat → List Int → q_M → Prop) (m : q_M) (os : Nat × List b_U) (r : Option Value) : Prop := ∃ o ∈ os.2, match o.1, r with
  | none, none => ∀ t ∈ o.2, bc_tk F m os.1 none t
  | some (lg, lo, hi), some y => ∃ z, b_isn lg y z ∧ lo ≤ z ∧ z ≤ hi ∧ ∀ t ∈ o.2, bc_tk F m os.1 (some z) t
  | _, _ => False
def bc_P (F : Nat → List Int → q_M → Prop) (I : List b_I) (Z : b_Z) (m0 : q_M) (r : Option Value) (m : q_M) : Prop := bi_M I m ∧ q_same Z.2.2.2.1 m0 m ∧ bc_fin F m Z.2.2.2.2.1 r
theorem b_eqr_ok (hE : bg_E F v E m) {nA : Nat} {x : Option b_T} {z : Option Int} (hx : ∀ y, x = some y → ∃ w, z = some w ∧ b_is v y w) : ∀ {as bs : List b_T} {ys : List Int}, b_eqr E nA x as bs = true → g_2 (b_is v) bs ys → g_2 (fun (a : b_T) (y : Int) => (a.1 = [] ∧ y = a.2) ∨ ∃ w, z = some w ∧ a.1 = [(nA, 1)] ∧ y = w + a.2) as ys
  | [], [], [], _, _ => trivial
  | a :: as, b :: bs, y :: ys, h, hb => by
    unfold b_eqr at h
    rw [Bool.and_eq_true] at h
    refine ⟨?_, b_eqr_ok hE hx h.2 hb.2⟩
    have h1 := h.1
    split at h1
    · rename_i ha
      have ha2 : b_is v a a.2 := ⟨0, by rw [ha]; rfl, by omega⟩
      have := b_eqv_ok hE h1 ha2 hb.1
      exact Or.inl ⟨ha, this.symm⟩
    · rename_i q y1 ha
      rw [Bool.and_eq_true, Bool.and_eq_true, decide_eq_true_eq] at h1
      obtain ⟨w, w1, s, w2, w3⟩ := hx y1 rfl
      have := b_eqv_ok hE h1.2 (x := w + a.2) ⟨s, w2, by show w + a.2 = s + (y1.2 + a.2); omega⟩ hb.1
      refine Or.inr ⟨w, w1, ?_, this.symm⟩
      rw [ha, ← Nat.eq_of_beq_eq_true h1.1.1, ← h1.1.2]
    · cases h1
  | [], [], _ :: _, _, hb => hb.elim
  | [], _ :: _, _, h, _ => by simp [b_eqr] at h
  | _ :: _, [], _, h, _ => by simp [b_eqr] at h
  | _ :: _, _ :: _, [], _, hb => hb.elim
theorem b_sbr_ok (hE : bg_E F v E m) {nA : Nat} {x : Option b_T} {z : Option Int} (hx : ∀ y, x = some y → ∃ w, z = some w ∧ b_is v y w) : ∀ {as us : List b_T}, b_sbr nA x as = some us → ∃ ys, g_2 (b_is v) us ys ∧ g_2 (fun (a : b_T) (y : Int) => (a.1 = [] ∧ y = a.2) ∨ ∃ w, z = some w ∧ a.1 = [(nA, 1)] ∧ y = w + a.2) as ys
  | [], us, h => by
    cases h
    exact ⟨[], trivial, trivial⟩
  | a :: as, us, h => by
    unfold b_sbr at h
    split at h
    rotate_left
    · cases h
    rename_i b bs h1 h2
    cases h
    obtain ⟨ys, y1, y2⟩ := b_sbr_ok hE hx h2
    split at h1
    · rename_i ha
      cases h1
      exact ⟨a.2 :: ys, ⟨⟨0, by rw [ha]; rfl, by omega⟩, y1⟩, Or.inl ⟨ha, rfl⟩, y2⟩
    · rename_i q y ha
      split at h1
      rotate_left
      · cases h1
      rename_i hq
      cases h1
      obtain ⟨w, w1, s, w2, w3⟩ := hx y rfl
      refine ⟨(w + a.2) :: ys, ⟨⟨s, w2, by show w + a.2 = s + (y.2 + a.2); omega⟩, y1⟩, Or.inr ⟨w, w1, ?_, rfl⟩, y2⟩
      rw [ha, ← hq.1, ← hq.2]
    · cases h1
theorem b_ctk_ok {hk : b_Hk} (hH : bg_Hk I F hk) (hM : bi_M I m) (hE : bg_E F v E m) {nA : Nat} {x : Option b_T} {z : Option Int} (hx : ∀ y, x = some y → ∃ w, z = some w ∧ b_is v y w) {ts : List b_Q} (h : b_ctk hk E nA x ts = true) : ∀ t ∈ ts, bc_tk F m nA z t := by
  intro t ht
  have h0 := List.all_eq_true.mp h t ht
  rw [Bool.or_eq_true] at h0
  rcases h0 with h0 | h0
  · obtain ⟨u, hu, h2⟩ := List.any_eq_true.mp h0
    rw [Bool.and_eq_true] at h2
    obtain ⟨ys, y1, y2⟩ := hE.2.2.2.2 u hu
    refine ⟨ys, ?_, b_eqr_ok hE hx h2.2 y1⟩
    rw [Nat.eq_of_beq_eq_true h2.1]
    exact y2
  · split at h0
    rotate_left
    · cases h0
    rename_i us hus
    rw [Bool.and_eq_true] at h0
    obtain ⟨ys, y1, y2⟩ := b_sbr_ok hE hx hus
    exact ⟨ys, hH.2.2.1 v E m t.1 us ys hE hM y1 h0.1, y2⟩
theorem b_fin_ok {hk : b_Hk} (hH : bg_Hk I F hk) (hE0 : bg_E F v E m) (hM : bi_M I m) {os : Nat × List b_U} {ra : List b_V} {r : Option Value} (h : b_fin hk E os ra = true) (hs : bg_s v ra r.toList) : bc_fin F m os r := by
  have hE := hE0
  unfold b_fin at h
  rw [Bool.or_eq_true] at h
  rcases h with h | h
  · exact absurd h (hH.2.2.2.1 _ _ m hE hM)
  obtain ⟨o, ho, h1⟩ := List.any_eq_true.mp h
  refine ⟨o, ho, ?_⟩
  split at h1
  · rename_i h2
    have := g_na hs
    cases r with
    | none =>
      simp only [h2]
      exact b_ctk_ok hH hM hE (fun y hy => by cases hy) h1
    | some y => cases this
  · rename_i lg lo hi lg1 x h2
    obtain ⟨y, ys, e1, hy, hs1⟩ := g_ca hs
    cases r with
    | none => cases e1
    | some y0 =>
      cases e1
      rw [Bool.and_eq_true, Bool.and_eq_true] at h1
      have := b_lgs h1.1.1
      subst this
      simp only [h2]
      cases lg with
      | false =>
        obtain ⟨w, rfl, hw⟩ := hy
        have := b_inb_ok hE h1.1.2 hw
        exact ⟨w.toInt, ⟨w, rfl, rfl⟩, this.1, this.2, b_ctk_ok hH hM hE (fun y hy => by cases hy; exact ⟨_, rfl, hw⟩) h1.2⟩
      | true =>
        obtain ⟨w, rfl, hw⟩ := hy
        have := b_inb_ok hE h1.1.2 hw
        exact ⟨w.toInt, ⟨w, rfl, rfl⟩, this.1, this.2, b_ctk_ok hH hM hE (fun y hy => by cases hy; exact ⟨_, rfl, hw⟩) h1.2⟩
  · cases h1
theorem b_nxt_ok {M : q_MI} {tl : List q_I} {fs : List b_F} {mo : List b_O} {tk : List b_V → List b_Q} : ∀ {ps : List b_P} {Ss : List b_S}, b_nxt M tl fs mo tk ps = some Ss → ∀ p ∈ ps, ∃ c, a_at M tl p.2.2.2.1 = some c ∧ ((p.1, p.2.1, p.2.2.1, mo, tk p.2.2.2.2.2), (M, c, p.2.2.2.2.1, p.2.2.2.2.2) :: fs) ∈ Ss
  | [], Ss, h, p, hp => by cases hp
  | q :: ps, Ss, h, p, hp => by
    unfold b_nxt at h
    split at h
    rotate_left
    · cases h
    rename_i c l h1 h2
    cases h
    rcases List.mem_cons.mp hp with rfl | hp
    · exact ⟨c, h1, List.mem_cons_self⟩
    · obtain ⟨c2, e1, e2⟩ := b_nxt_ok h2 p hp
      exact ⟨c2, e1, List.mem_cons_of_mem _ e2⟩
theorem b_hd_ok : ∀ {hs : List b_H} {pc : Nat} {h : b_H}, b_hd hs pc = some h → h ∈ hs ∧ h.1 = pc
  | [], pc, h, e => by simp [b_hd] at e
  | x :: hs, pc, h, e => by
    unfold b_hd at e
    split at e
    · rename_i hb
      cases e
      exact ⟨List.mem_cons_self, Nat.eq_of_beq_eq_true hb⟩
    · exact ⟨List.mem_cons_of_mem _ (b_hd_ok e).1, (b_hd_ok e).2⟩
theorem b_lk_ok {i : Instr} {sa sa1 : List b_V} {st : List Value} (h : b_lk i sa = some sa1) (hs : bg_s v sa st) : ∃ st1, q_lk i st = some st1 ∧ bg_s v sa1 st1 := by
  unfold b_lk at h
  split at h
  · cases h
    exact ⟨_, rfl, ⟨_, rfl, b_is_c _⟩, hs⟩
  · cases h
    exact ⟨_, rfl, ⟨_, rfl, b_is_c _⟩, hs⟩
  · cases h
    exact ⟨_, rfl, rfl, hs⟩
  · cases h
def bg_St (F : Nat → List Int → q_M → Prop) (I : List b_I) (Z : b_Z) (MB : q_MI) (m0 : q_M) (z0 : Option Int) (v : List Int) (S : b_S) (ps : List q_Fr) (m : q_M) : Prop := bg_E F v S.1 m ∧ g_2 (bg_Fr v) S.2 ps ∧ bi_M I m ∧ q_same Z.2.2.2.1 m0 m ∧ (∀ f, ps.getLast? = some f → f.1 = MB) ∧ bg_mu v Z.2.2.2.2.2.2 z0
/-- what the loop heads promise -/
def bc_hd (G : q_G) (F : Nat → List Int → q_M → Prop) (I : List b_I) (Z : b_Z) (MB : q_MI) (z0 : Option Int) : Prop := ∀ h ∈ Z.2.2.2.2.2.1, ∀ T ∈ h.2.2.2, ∀ l m, bg_Te F I T z0 l m → ∃ (n : Nat) (r : Option Value) (m1 : q_M), q_run G n MB h.1 l [] m = some (r, m1) ∧ bc_P F I Z m r m1
set_option maxHeartbeats 2000000 in
theorem b_step_ok {hk : b_Hk} (hH : bg_Hk I F hk) (hsG : ∀ M ∈ q_gM G, q_srt (q_mC M) = true) (hF : bg_F I fp F) {Z : b_Z} (hcs : ∀ c ∈ Z.2.1, bc_ok G I F c) {MB : q_MI} {m0 : q_M} {z0 : Option Int} {chk : Bool} (hh : chk = true → bc_hd G F I Z MB z0) {S : b_S} {Ss : List b_S} (h : b_step hk G I fp Z chk S = some Ss) {ps : List q_Fr} (hK : bg_St F I Z MB m0 z0 v S ps m) :
    q_Kp G (bc_P F I Z m0) ps none m ∨ ∃ S1 ∈ Ss, ∃ (v1 : List Int) (ps1 : List q_Fr) (m1 : q_M), bg_St F I Z MB m0 z0 v1 S1 ps1 m1 ∧ (q_Kp G (bc_P F I Z m0) ps1 none m1 → q_Kp G (bc_P F I Z m0) ps none m) := by
  obtain ⟨E, fs0⟩ := S
  obtain ⟨hE, hFr, hM, hw, hlast, hmu⟩ := hK
  simp only at hE hFr
  unfold b_step at h
  split at h
  · cases h
  · cases h
  rename_i E' M pc raw len i pos tl la sa fs heq
  cases heq
  obtain ⟨p0, pfs, rfl, hf, hfs⟩ := g_ca hFr
  obtain ⟨M0, pc0, l, st⟩ := p0
  obtain ⟨e1, hsrt, ⟨J, jl, e2, e3, hsuf⟩, hl, hs⟩ := hf
  simp only at e1 e2 e3 hsrt hsuf hl hs
  subst e1
  cases e2
  simp only at e3
  subst e3
  have hfd := q_fd_suf hsrt hsuf
  simp only at hfd
  have htl : tl <:+ q_mC M := (List.suffix_cons _ tl).trans hsuf
  split at h
  · -- a loop head
    rename_i hd hhd
    split at h
    rotate_left
    · cases h
    split at h
    rotate_left
    · cases h
    rename_i harr
    cases h
    split at hhd
    rotate_left
    · cases hhd
    obtain ⟨hd1, hd2⟩ := b_hd_ok hhd
    have hp0 : pfs = [] := g_na hfs
    subst hp0
    have hMB : M = MB := hlast (M, pc, l, st) (by simp)
    subst hMB
    have hst := g_na hs
    subst hst
    obtain ⟨T, T1, T2⟩ := b_arr_ok hH hE hM hl hmu harr
    obtain ⟨n, r, m1, r1, r2⟩ := hh rfl hd hd1 T T1 l m T2
    left
    refine ⟨n, r, m1, ?_, r2.1, hw.tr r2.2.1, r2.2.2⟩
    rw [hd2] at r1
    exact r1
  split at h
  · -- pure
    rename_i hg
    split at h
    rotate_left
    · cases h
    rename_i ps1 hp
    obtain ⟨p, hpm, t, l1, st1, r1, r2, r3, r4, r5, r6⟩ := bg_pure hp hE.1 hE.2.1 hE.2.2.1 hl hs
    obtain ⟨c, c1, c2⟩ := b_nxt_ok h p hpm
    obtain ⟨J1, jl1, d1, d2, d3⟩ := a_at_ok c1 htl
    refine Or.inr ⟨_, c2, v ++ t, (M, p.2.2.2.1, l1, st1) :: pfs, m, ⟨⟨r2, r3, r4, fun o ho => bg_O_ext (hE.2.2.2.1 o ho), fun q hq => (List.mem_append.mp hq).elim (fun hq => hH.2.1 (v ++ t) (q_mL M) pc len i l st _ _ _ sa _ m (bg_s_ext hs) r6 r1 q hq) (fun hq => bg_Q_ext (hE.2.2.2.2 q hq))⟩, ⟨⟨rfl, hsrt, ⟨J1, jl1, d1, d2, d3⟩, r5, r6⟩, g_2_mono (fun _ _ => bg_Fr_ext) hfs⟩, hM, hw, g_last hlast (fun _ q => q), b_mu_ext hmu⟩, q_Kp_step (fun n => ?_)⟩
    conv => lhs; unfold q_run
    simp only [hfd, hg, r1]
  · -- memory
    rename_i hg
    split at h
    · rename_i himp
      exfalso
      unfold b_sti at himp
      split at himp
      · exact hH.2.2.2.1 _ _ m hE hM himp
      · exact hH.2.2.2.1 _ _ m hE hM himp
      · cases himp
    split at h
    rotate_left
    · cases h
    rename_i c xs c1 hp
    cases h
    obtain ⟨J1, jl1, d1, d2, d3⟩ := a_at_ok c1 htl
    obtain ⟨x, hx, t, st1, m1, r1, r2, r3, r4, r5⟩ := b_mem_ok hH.1 hH.2.2.2.2.2 hp hF hE hM hs
    refine Or.inr ⟨_, List.mem_map.mpr ⟨x, hx, rfl⟩, v ++ t, (M, pc + len, l, st1) :: pfs, m1, ⟨r2, ⟨⟨rfl, hsrt, ⟨J1, jl1, d1, d2, d3⟩, bg_L_ext hl, r3⟩, g_2_mono (fun _ _ => bg_Fr_ext) hfs⟩, r4, hw.tr r5, g_last hlast (fun _ q => q), b_mu_ext hmu⟩, q_Kp_step (fun n => ?_)⟩
    conv => lhs; unfold q_run
    simp only [hfd, hg, r1]
  · cases h
  · -- call or return
    rename_i hg
    split at h
    · rename_i j hj
      split at h
      rotate_left
      · cases h
      rename_i c M1 as rest c1 hp
      obtain ⟨J1, jl1, d1, d2, d3⟩ := a_at_ok c1 htl
      obtain ⟨vs, rs, r1, r2, r3, r4⟩ := b_call_ok hM hp hs
      have hstep : ∀ n r m1, q_run G n M1 0 (lv_args 0 vs) [] m = some (r, m1) → q_run G (n + 1) M pc l st m = q_run G n M (pc + len) l (r.toList ++ rs) m1 := by
        intro n r m1 hr
        conv => lhs; unfold q_run
        simp only [hfd, hg, hj, r1, hr]
      split at h
      · split at h
        rotate_left
        · cases h
        rename_i c2 hc2
        cases h
        obtain ⟨J2, jl2, d4, d5, d6⟩ := a_at_ok hc2 (List.suffix_refl _)
        refine Or.inr ⟨_, List.mem_singleton.mpr rfl, v, (M1, 0, lv_args 0 vs, []) :: (M, pc + len, l, rs) :: pfs, m, ⟨hE, ⟨⟨rfl, hsG M1 (List.mem_of_getElem? r4), ⟨J2, jl2, d4, d5, d6⟩, b_lvs_ok 0 r2, trivial⟩, ⟨rfl, hsrt, ⟨J1, jl1, d1, d2, d3⟩, hl, r3⟩, hfs⟩, hM, hw, fun z hz => ?_, hmu⟩, q_Kp_call hstep⟩
        rw [List.getLast?_cons_cons] at hz
        exact g_last (P := fun f : q_Fr => f.1 = MB) (g := (M, pc + len, l, rs)) hlast (fun _ q => q) z hz
      · split at h
        rotate_left
        · cases h
        rename_i xs hxs
        cases h
        obtain ⟨n, r, m1, q1, q2, q3, x, q4, t, q5, q6⟩ := b_con_ok hH hF hcs hM (Es := []) hxs hE r2 r3 r4
        exact Or.inr ⟨_, List.mem_map.mpr ⟨x, q4, rfl⟩, v ++ t, (M, pc + len, l, r.toList ++ rs) :: pfs, m1, ⟨q5, ⟨⟨rfl, hsrt, ⟨J1, jl1, d1, d2, d3⟩, bg_L_ext hl, q6⟩, g_2_mono (fun _ _ => bg_Fr_ext) hfs⟩, q2, hw.tr q3, g_last hlast (fun _ q => q), b_mu_ext hmu⟩, q_Kp_done hstep q1⟩
    · rename_i hj
      split at h
      rotate_left
      · cases h
      rename_i ra hr
      obtain ⟨r, r1, r2⟩ := b_ret_ok hE.2.1 hr hs
      have hone : q_run G 1 M pc l st m = some (r, m) := by
        unfold q_run
        simp only [hfd, hg, hj, r1]
      split at h
      · split at h
        rotate_left
        · cases h
        rename_i hfin
        cases h
        have hp0 : pfs = [] := g_na hfs
        subst hp0
        exact Or.inl ⟨1, r, m, hone, hM, hw, b_fin_ok hH hE hM hfin r2⟩
      · rename_i M2 c2 l2 st2 fs2 hxx
        cases h
        obtain ⟨q0, qs, rfl, hf2, hfs2⟩ := g_ca hfs
        obtain ⟨M3, pc3, l3, st3⟩ := q0
        obtain ⟨e1, hsrt2, hcd2, hl2, hs2⟩ := hf2
        simp only at e1 hsrt2 hcd2 hl2 hs2
        subst e1
        refine Or.inr ⟨_, List.mem_singleton.mpr rfl, v, (M2, pc3, l3, r.toList ++ st3) :: qs, m, ⟨hE, ⟨⟨rfl, hsrt2, hcd2, hl2, g_2_app r2 hs2⟩, hfs2⟩, hM, hw, fun z hz => ?_, hmu⟩, q_Kp_ret hone⟩
        exact g_last (P := fun f : q_Fr => f.1 = MB) (f := (M2, pc3, l3, st3)) (g := (M2, pc3, l3, r.toList ++ st3)) (fun z hz => hlast z (by rw [List.getLast?_cons_cons]; exact hz)) (fun _ q => q) z hz
  · rename_i hg0 hg1 hg2 hg3
    split at h
    rotate_left
    · cases h
    rename_i c st1a c1 hp
    cases h
    obtain ⟨J1, jl1, d1, d2, d3⟩ := a_at_ok c1 htl
    obtain ⟨st1, r1, r2⟩ := b_lk_ok hp hs
    refine Or.inr ⟨_, List.mem_singleton.mpr rfl, v, (M, pc + len, l, st1) :: pfs, m, ⟨hE, ⟨⟨rfl, hsrt, ⟨J1, jl1, d1, d2, d3⟩, hl, r2⟩, hfs⟩, hM, hw, g_last hlast (fun _ q => q), hmu⟩, q_Kp_step (fun n => ?_)⟩
    conv => lhs; unfold q_run
    simp only [hfd, r1]
end BRUN

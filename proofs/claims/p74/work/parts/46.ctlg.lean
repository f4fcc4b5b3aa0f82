theorem b_sbl_ok {v zs : List Int} {s : List b_T} (hs : g_2 (b_is v) s zs) : ∀ {l : List (Nat × Int)} {r : b_T}, b_sbl s l = some r → ∃ z, b_vs zs l = some z ∧ b_is v r z
  | [], r, h => by
    cases h
    exact ⟨0, rfl, b_is_c 0⟩
  | q :: l, r, h => by
    unfold b_sbl at h
    split at h
    rotate_left
    · cases h
    rename_i e r1 h1 h2
    cases h
    obtain ⟨w, w1, w2⟩ := g_2_get hs h1
    obtain ⟨z, z1, z2⟩ := b_sbl_ok hs h2
    refine ⟨q.2 * w + z, b_vs_cons.mpr ⟨w, z, w1, z1, rfl⟩, ?_⟩
    have := b_is_ad (k := q.2) z2 w2
    rw [Int.add_comm] at this
    exact this
theorem b_sb_ok {v zs : List Int} {s : List b_T} (hs : g_2 (b_is v) s zs) {t t1 : b_T} (h : b_sb s t = some t1) : ∃ z, b_is zs t z ∧ b_is v t1 z := by
  unfold b_sb at h
  split at h
  rotate_left
  · cases h
  rename_i r hr
  cases h
  obtain ⟨z, z1, z2⟩ := b_sbl_ok hs hr
  refine ⟨z + t.2, ⟨z, z1, rfl⟩, ?_⟩
  obtain ⟨s1, e1, e2⟩ := z2
  exact ⟨s1, e1, by show z + t.2 = s1 + (r.2 + t.2); omega⟩
section BCTL
variable {F : Nat → List Int → q_M → Prop} {fp : Nat → b_W} {v : List Int} {E : b_E} {m : q_M} {I : List b_I} {G : q_G}
theorem b_eqv_ok (hE : bg_E F v E m) {a b : b_T} {x y : Int} (h : b_eqv E a b = true) (ha : b_is v a x) (hb : b_is v b y) : x = y := by
  unfold b_eqv at h
  rw [Bool.or_eq_true, decide_eq_true_eq, Bool.and_eq_true] at h
  rcases h with rfl | ⟨h1, h2⟩
  · exact b_is_uniq ha hb
  · have k1 := b_ent_ok hE.2.1 hE.2.2.1 h1 (b_is_ad (k := -1) ha hb)
    have k2 := b_ent_ok hE.2.1 hE.2.2.1 h2 (b_is_ad (k := -1) hb ha)
    omega
theorem b_fita_ok (hE : bg_E F v E m) : ∀ {as : List b_A} {xs : List b_V} {ys : List Value} {ts : List b_T}, bg_s v xs ys → b_fita E as xs = some ts → ∃ zs, bc_args as ys zs ∧ g_2 (b_is v) ts zs
  | [], [], [], ts, _, h => by
    cases h
    exact ⟨[], rfl, trivial⟩
  | .inl (lg, lo, hi) :: as, .inl (lg1, e) :: xs, y :: ys, ts, hs, h => by
    unfold b_fita at h
    split at h
    rotate_left
    · cases h
    rename_i hc
    obtain ⟨rfl, hc⟩ := hc
    split at h
    rotate_left
    · cases h
    rename_i l hl
    cases h
    obtain ⟨zs, h1, h2⟩ := b_fita_ok hE hs.2 hl
    cases lg with
    | false =>
      obtain ⟨z, rfl, hz⟩ := hs.1
      have := b_inb_ok hE hc hz
      exact ⟨z.toInt :: zs, ⟨⟨z, rfl, rfl⟩, this.1, this.2, h1⟩, hz, h2⟩
    | true =>
      obtain ⟨z, rfl, hz⟩ := hs.1
      have := b_inb_ok hE hc hz
      exact ⟨z.toInt :: zs, ⟨⟨z, rfl, rfl⟩, this.1, this.2, h1⟩, hz, h2⟩
  | .inr (.inl k) :: as, .inr (.inl j) :: xs, y :: ys, ts, hs, h => by
    unfold b_fita at h
    split at h
    rotate_left
    · cases h
    rename_i hc
    obtain ⟨zs, h1, h2⟩ := b_fita_ok hE hs.2 h
    have hy : y = .ref j := hs.1
    exact ⟨zs, ⟨by rw [hy, hc], h1⟩, h2⟩
  | .inr (.inr k) :: as, .inr (.inr j) :: xs, y :: ys, ts, hs, h => by
    unfold b_fita at h
    split at h
    rotate_left
    · cases h
    rename_i hc
    obtain ⟨zs, h1, h2⟩ := b_fita_ok hE hs.2 h
    have hy : y = .retAddr j := hs.1
    exact ⟨zs, ⟨by rw [hy, hc], h1⟩, h2⟩
  | [], _ :: _, _, _, _, h => by simp [b_fita] at h
  | _ :: _, [], _, _, _, h => by simp [b_fita] at h
  | [], [], _ :: _, _, hs, _ => hs.elim
  | _ :: _, _ :: _, [], _, hs, _ => hs.elim
  | .inl _ :: _, .inr _ :: _, _ :: _, _, _, h => by simp [b_fita] at h
  | .inr (.inl _) :: _, .inl _ :: _, _ :: _, _, _, h => by simp [b_fita] at h
  | .inr (.inr _) :: _, .inl _ :: _, _ :: _, _, _, h => by simp [b_fita] at h
  | .inr (.inl _) :: _, .inr (.inr _) :: _, _ :: _, _, _, h => by simp [b_fita] at h
  | .inr (.inr _) :: _, .inr (.inl _) :: _, _ :: _, _, _, h => by simp [b_fita] at h
theorem b_eqvs_ok (hE : bg_E F v E m) {s : List b_T} {zs : List Int} (hs : g_2 (b_is v) s zs) : ∀ {as bs : List b_T} {ys : List Int}, b_eqvs E s as bs = true → g_2 (b_is v) bs ys → g_2 (b_is zs) as ys
  | [], [], [], _, _ => trivial
  | a :: as, b :: bs, y :: ys, h, hb => by
    unfold b_eqvs at h
    rw [Bool.and_eq_true] at h
    refine ⟨?_, b_eqvs_ok hE hs h.2 hb.2⟩
    have h1 := h.1
    split at h1
    · rename_i c hc
      obtain ⟨z, z1, z2⟩ := b_sb_ok hs hc
      have := b_eqv_ok hE h1 z2 hb.1
      subst this
      exact z1
    · cases h1
  | [], [], _ :: _, _, hb => hb.elim
  | [], _ :: _, _, h, _ => by simp [b_eqvs] at h
  | _ :: _, [], _, h, _ => by simp [b_eqvs] at h
  | _ :: _, _ :: _, [], _, hb => hb.elim
theorem b_sbs_ok {s : List b_T} {zs : List Int} (hs : g_2 (b_is v) s zs) : ∀ {as bs : List b_T} {ys : List Int}, b_sbs s as = some bs → g_2 (b_is zs) as ys → g_2 (b_is v) bs ys
  | [], bs, [], h, _ => by
    cases h
    trivial
  | a :: as, bs, y :: ys, h, hy => by
    unfold b_sbs at h
    split at h
    rotate_left
    · cases h
    rename_i b bs1 h1 h2
    cases h
    obtain ⟨z, z1, z2⟩ := b_sb_ok hs h1
    have := b_is_uniq z1 hy.1
    subst this
    exact ⟨z2, b_sbs_ok hs h2 hy.2⟩
  | [], _, _ :: _, _, hy => hy.elim
  | _ :: _, _, [], _, hy => hy.elim
theorem b_sbs_ex {s : List b_T} {zs : List Int} (hs : g_2 (b_is v) s zs) : ∀ {as bs : List b_T}, b_sbs s as = some bs → ∃ ys, g_2 (b_is zs) as ys ∧ g_2 (b_is v) bs ys
  | [], bs, h => by
    cases h
    exact ⟨[], trivial, trivial⟩
  | a :: as, bs, h => by
    unfold b_sbs at h
    split at h
    rotate_left
    · cases h
    rename_i b bs1 h1 h2
    cases h
    obtain ⟨z, z1, z2⟩ := b_sb_ok hs h1
    obtain ⟨ys, y1, y2⟩ := b_sbs_ex hs h2
    exact ⟨z :: ys, ⟨z1, y1⟩, z2, y2⟩
theorem b_tks_ok {hk : b_Hk} (hH : bg_Hk I F hk) (hE : bg_E F v E m) (hM : bi_M I m) {s : List b_T} {zs : List Int} (hs : g_2 (b_is v) s zs) {ts : List b_Q} (h : b_tks hk E s ts = true) : ∀ t ∈ ts, bg_Q F zs m t := by
  intro t ht
  have h0 := List.all_eq_true.mp h t ht
  rw [Bool.or_eq_true] at h0
  rcases h0 with h0 | h0
  · obtain ⟨u, hu, h1⟩ := List.any_eq_true.mp h0
    rw [Bool.and_eq_true] at h1
    obtain ⟨ys, y1, y2⟩ := hE.2.2.2.2 u hu
    refine ⟨ys, b_eqvs_ok hE hs h1.2 y1, ?_⟩
    rw [Nat.eq_of_beq_eq_true h1.1]
    exact y2
  · split at h0
    rotate_left
    · cases h0
    rename_i us hus
    obtain ⟨ys, y1, y2⟩ := b_sbs_ex hs hus
    exact ⟨ys, y1, hH.2.2.1 v E m t.1 us ys hE hM y2 h0⟩
theorem b_sbq_ok {s : List b_T} {zs : List Int} (hs : g_2 (b_is v) s zs) : ∀ {ts us : List b_Q}, b_sbq s ts = some us → (∀ t ∈ ts, bg_Q F zs m t) → ∀ u ∈ us, bg_Q F v m u
  | [], us, h, _, u, hu => by
    cases h
    cases hu
  | t :: ts, us, h, ht, u, hu => by
    unfold b_sbq at h
    split at h
    rotate_left
    · cases h
    rename_i b bs h1 h2
    cases h
    rcases List.mem_cons.mp hu with rfl | hu
    · obtain ⟨ys, y1, y2⟩ := ht t List.mem_cons_self
      exact ⟨ys, b_sbs_ok hs h1 y1, y2⟩
    · exact b_sbq_ok hs h2 (fun x hx => ht x (List.mem_cons_of_mem _ hx)) u hu
theorem b_wrW_ok (hF : bg_F I fp F) {W : b_W} {m1 : q_M} (hM : bi_M I m) (hM1 : bi_M I m1) (hE : bg_E F v E m) (hm : q_same W m m1) : bg_E F v (b_wrW fp E W) m1 := by
  refine ⟨hE.1, hE.2.1, hE.2.2.1, ?_, ?_⟩
  · intro o ho
    obtain ⟨h1, h2⟩ := List.mem_filter.mp ho
    obtain ⟨j, h3, h4⟩ := hE.2.2.2.1 o h1
    refine ⟨j, h3, ?_⟩
    rw [hm]
    · exact h4
    · rintro ⟨w, hw, e1, e2, e3⟩
      have h5 := List.all_eq_true.mp h2 w hw
      rw [e1, Nat.beq_refl, Bool.true_and, Bool.not_eq_true'] at h5
      unfold b_ovl at h5
      split at h5
      · rename_i p hp
        have := b_iv_ok hE.2.1 hp h3
        simp only [decide_eq_false_iff_not] at h5
        omega
      · cases h5
  · intro t ht
    obtain ⟨h1, h2⟩ := List.mem_filter.mp ht
    obtain ⟨zs, h3, h4⟩ := hE.2.2.2.2 t h1
    refine ⟨zs, h3, hF _ _ _ _ hM hM1 ?_ h4⟩
    rintro c j ⟨w, hw, e1, e2, e3⟩
    refine hm c j ?_
    rintro ⟨u, hu, e4, e5, e6⟩
    have h5 := List.all_eq_true.mp (List.all_eq_true.mp h2 u hu) w hw
    rw [e1, e4, Nat.beq_refl, Bool.true_and, Bool.not_eq_true', decide_eq_false_iff_not] at h5
    omega
theorem b_outs_ok {s : List b_T} {zs : List Int} (hE : bg_E F v E m) (hs : g_2 (b_is v) s zs) {rest : List b_V} {st : List Value} (hr : bg_s v rest st) {r : Option Value} {o : b_U} (ho : bc_out F zs m o r) : ∀ {os : List b_U} {xs : List b_X}, b_outs E s os rest = some xs → o ∈ os → ∃ x ∈ xs, ∃ t, bg_E F (v ++ t) x.1 m ∧ bg_s (v ++ t) x.2 (r.toList ++ st)
  | [], xs, h, hm => by cases hm
  | (none, ts) :: os, xs, h, hm => by
    unfold b_outs at h
    split at h
    rotate_left
    · cases h
    rename_i q l hq hl
    cases h
    rcases List.mem_cons.mp hm with rfl | hm
    · match r, ho with
      | none, ho =>
        refine ⟨_, List.mem_cons_self, [], ?_, by simpa using hr⟩
        simp only [List.append_nil]
        refine ⟨hE.1, hE.2.1, hE.2.2.1, hE.2.2.2.1, ?_⟩
        intro t ht
        rcases List.mem_append.mp ht with ht | ht
        · exact b_sbq_ok hs hq ho t ht
        · exact hE.2.2.2.2 t ht
    · obtain ⟨x, hx, h1⟩ := b_outs_ok hE hs hr ho hl hm
      exact ⟨x, List.mem_cons_of_mem _ hx, h1⟩
  | (some (lg, lo, hi), ts) :: os, xs, h, hm => by
    unfold b_outs at h
    split at h
    rename_i k B C w hw
    split at h
    rotate_left
    · cases h
    rename_i q l hq hl
    cases h
    rcases List.mem_cons.mp hm with rfl | hm
    · match r, ho with
      | some y, ho =>
        obtain ⟨z, z1, z2, z3, z4⟩ := ho
        have hR := b_new_ok hE.1 hE.2.1 hE.2.2.1 (lg := lg) z2 z3
        rw [hw] at hR
        obtain ⟨t, g1, g2, g3, g4, g5⟩ := hR
        obtain ⟨lg1, e⟩ := w
        simp only at g1 g2 g3 g4 g5
        subst g4
        refine ⟨_, List.mem_cons_self, t, ⟨g1, g2, g3, fun o ho => bg_O_ext (hE.2.2.2.1 o ho), ?_⟩, ⟨?_, bg_s_ext hr⟩⟩
        · intro u hu
          rcases List.mem_append.mp hu with hu | hu
          · have hs2 : g_2 (b_is (v ++ t)) (s ++ [e]) (zs ++ [z]) := g_2_app (g_2_mono (fun _ _ => b_is_ext) hs) ⟨g5, trivial⟩
            exact b_sbq_ok hs2 hq z4 u hu
          · exact bg_Q_ext (hE.2.2.2.2 u hu)
        · cases lg1 with
          | false =>
            obtain ⟨w, rfl, rfl⟩ := z1
            exact ⟨w, rfl, g5⟩
          | true =>
            obtain ⟨w, rfl, rfl⟩ := z1
            exact ⟨w, rfl, g5⟩
    · obtain ⟨x, hx, h1⟩ := b_outs_ok hE hs hr ho hl hm
      exact ⟨x, List.mem_cons_of_mem _ hx, h1⟩
theorem b_cons_ok {hk : b_Hk} {W : b_W} {k : Nat} {as rest : List b_V} : ∀ {cs : List b_Con} {xs : List b_X}, b_cons hk fp W E k as rest cs = some xs → ∃ c ∈ cs, c.1 = k ∧ ∃ s, b_fita E c.2.1 as = some s ∧ b_tks hk E s c.2.2.2.2 = true ∧ b_cw W c.2.2.2.1 = true ∧ b_outs (b_wrW fp E c.2.2.2.1) s c.2.2.1 rest = some xs
  | [], xs, h => by simp [b_cons] at h
  | c :: cs, xs, h => by
    have next : b_cons hk fp W E k as rest cs = some xs → ∃ d ∈ c :: cs, d.1 = k ∧ ∃ s, b_fita E d.2.1 as = some s ∧ b_tks hk E s d.2.2.2.2 = true ∧ b_cw W d.2.2.2.1 = true ∧ b_outs (b_wrW fp E d.2.2.2.1) s d.2.2.1 rest = some xs := fun h => by
      obtain ⟨d, hd, h1⟩ := b_cons_ok h
      exact ⟨d, List.mem_cons_of_mem _ hd, h1⟩
    unfold b_cons at h
    split at h
    · rename_i hk
      split at h
      · rename_i s hs
        split at h
        · rename_i hc
          exact ⟨c, List.mem_cons_self, Nat.eq_of_beq_eq_true hk, s, hs, hc.1, hc.2, h⟩
        · exact next h
      · exact next h
    · exact next h
theorem b_cut_ok {x : b_T} {z : Int} (hx : b_is v x z) {c : Int} {l : List (a_B × List b_T)} (h : ∃ q ∈ l, g_B v q.1 ∧ bg_C v q.2) : ∃ q ∈ l.flatMap (fun q => b_cmp q.1 q.2 .lt x (b_c c) ++ b_cmp q.1 q.2 .ge x (b_c c)), g_B v q.1 ∧ bg_C v q.2 := by
  obtain ⟨q, hq, h1, h2⟩ := h
  by_cases hc : z < c
  · obtain ⟨p, p1, p2, p3⟩ := b_cmp_ok (c := .lt) h1 h2 hx (b_is_c c) hc
    exact ⟨p, List.mem_flatMap.mpr ⟨q, hq, List.mem_append_left _ p1⟩, p2, p3⟩
  · obtain ⟨p, p1, p2, p3⟩ := b_cmp_ok (c := .ge) h1 h2 hx (b_is_c c) (by show c ≤ z; omega)
    exact ⟨p, List.mem_flatMap.mpr ⟨q, hq, List.mem_append_right _ p1⟩, p2, p3⟩
theorem b_cuts_ok {x : b_T} {z : Int} (hx : b_is v x z) : ∀ {cs : List Int} {l : List (a_B × List b_T)}, (∃ q ∈ l, g_B v q.1 ∧ bg_C v q.2) → ∃ q ∈ b_cuts x cs l, g_B v q.1 ∧ bg_C v q.2
  | [], l, h => h
  | c :: cs, l, h => by
    unfold b_cuts
    exact b_cuts_ok hx (b_cut_ok hx h)
theorem b_cutl_ok {k : Nat} {as : List b_V} {ys : List Value} (hs : bg_s v as ys) : ∀ {cs : List (Nat × Nat × List Int)} {l : List (a_B × List b_T)}, (∃ q ∈ l, g_B v q.1 ∧ bg_C v q.2) → ∃ q ∈ b_cutl k as cs l, g_B v q.1 ∧ bg_C v q.2
  | [], l, h => h
  | c :: cs, l, h => by
    unfold b_cutl
    split
    · split
      · rename_i lg x hx
        obtain ⟨y, hy, hv⟩ := g_2_get hs hx
        have hz : ∃ z, b_is v x z := by
          cases lg with
          | false => obtain ⟨z, -, hz⟩ := hv; exact ⟨_, hz⟩
          | true => obtain ⟨z, -, hz⟩ := hv; exact ⟨_, hz⟩
        obtain ⟨z, hz⟩ := hz
        exact b_cutl_ok hs (b_cuts_ok hz h)
      · exact b_cutl_ok hs h
    · exact b_cutl_ok hs h
theorem b_cut2_ok {hk : b_Hk} (hH : bg_Hk I F hk) (hM : bi_M I m) (hE : bg_E F v E m) {Z : b_Z} {k : Nat} {as : List b_V} {ys : List Value} (hs : bg_s v as ys) : ∃ E1 ∈ b_cut2 hk Z E k as, bg_E F v E1 m := by
  obtain ⟨q, q1, q2, q3⟩ := b_cutl_ok hs (k := k) (cs := Z.2.2.1) (l := [(E.2.1, E.2.2.1)]) ⟨_, List.mem_singleton.mpr rfl, hE.2.1, hE.2.2.1⟩
  have hE1 : bg_E F v (E.1, q.1, q.2, E.2.2.2) m := ⟨hE.1, q2, q3, hE.2.2.2⟩
  unfold b_cut2
  have h5 := hH.2.2.2.2.1 v k _ as m hE1 hM
  cases hal : hk.2.2.2.2.1 k (E.1, q.1, q.2, E.2.2.2) as with
  | nil => exact ⟨_, List.mem_flatMap.mpr ⟨q, q1, by simp only [hal]; exact List.mem_singleton.mpr rfl⟩, hE1⟩
  | cons a al =>
    rw [hal] at h5
    obtain ⟨ts, t1, t2⟩ := h5 (by simp)
    refine ⟨(E.1, q.1, q.2, E.2.2.2.1, ts ++ E.2.2.2.2), List.mem_flatMap.mpr ⟨q, q1, by simp only [hal]; exact List.mem_map.mpr ⟨ts, t1, rfl⟩⟩, hE1.1, hE1.2.1, hE1.2.2.1, hE1.2.2.2.1, ?_⟩
    intro t ht
    rcases List.mem_append.mp ht with ht | ht
    · exact t2 t ht
    · exact hE1.2.2.2.2 t ht
theorem b_calls_ok {hk : b_Hk} (hH : bg_Hk I F hk) (hM : bi_M I m) {Z : b_Z} {k : Nat} {as rest : List b_V} : ∀ {Es : List b_E} {xs : List b_X}, b_calls hk fp Z k as rest Es = some xs → ∀ E1 ∈ Es, bg_E F v E1 m → ∃ ys, b_cons hk fp Z.2.2.2.1 E1 k as rest Z.2.1 = some ys ∧ ∀ y ∈ ys, y ∈ xs
  | [], xs, h, E1, hE, _ => by cases hE
  | E0 :: Es, xs, h, E1, hE, hE1 => by
    unfold b_calls at h
    split at h
    rotate_left
    · cases h
    rename_i a b h1 h2
    cases h
    rcases List.mem_cons.mp hE with rfl | hE
    · rw [if_neg (hH.2.2.2.1 v _ m hE1 hM)] at h1
      exact ⟨a, h1, fun y hy => List.mem_append_left _ hy⟩
    · obtain ⟨ys, y1, y2⟩ := b_calls_ok hH hM h2 E1 hE hE1
      exact ⟨ys, y1, fun y hy => List.mem_append_right _ (y2 y hy)⟩
theorem b_cw_ok {W V : b_W} (h : b_cw W V = true) : ∀ c j, b_plW V c j → b_plW W c j := by
  rintro c j ⟨w, hw, e1, e2, e3⟩
  have := b_inW_ok (List.all_eq_true.mp h w hw) e2 e3
  rw [e1] at this
  exact this
/-- a call by contract -/
theorem b_con_ok {hk : b_Hk} (hH : bg_Hk I F hk) (hF : bg_F I fp F) {Z : b_Z} (hcs : ∀ c ∈ Z.2.1, bc_ok G I F c) (hM : bi_M I m) {k : Nat} {as rest : List b_V} {Es : List b_E} {xs : List b_X} (h : b_calls hk fp Z k as rest (b_cut2 hk Z E k as) = some xs) (hE : bg_E F v E m) {ys st : List Value} (ha : bg_s v as ys) (hr : bg_s v rest st) {M : q_MI} (hk : (q_gM G)[k]? = some M) :
    ∃ (n : Nat) (r : Option Value) (m1 : q_M), q_run G n M 0 (lv_args 0 ys) [] m = some (r, m1) ∧ bi_M I m1 ∧ q_same Z.2.2.2.1 m m1 ∧ ∃ x ∈ xs, ∃ t, bg_E F (v ++ t) x.1 m1 ∧ bg_s (v ++ t) x.2 (r.toList ++ st) := by
  obtain ⟨E1, e1, e2⟩ := b_cut2_ok hH hM hE (Z := Z) (k := k) ha
  obtain ⟨xs1, x1, x2⟩ := b_calls_ok hH hM h E1 e1 e2
  obtain ⟨c, c1, c2, s, c3, c4, c5, c6⟩ := b_cons_ok x1
  obtain ⟨zs, z1, z2⟩ := b_fita_ok e2 ha c3
  obtain ⟨n, r, m1, r1, r2, r3, o, o1, o2⟩ := hcs c c1 M (by rw [c2]; exact hk) ys zs m z1 hM (b_tks_ok hH e2 hM z2 c4)
  obtain ⟨x, h1, t, h2, h3⟩ := b_outs_ok (b_wrW_ok hF hM r2 e2 r3) z2 hr o2 c6 o1
  exact ⟨n, r, m1, r1, r2, r3.mono (b_cw_ok c5), x, x2 x h1, t, h2, h3⟩
theorem b_lvs_ok : ∀ {as : List b_V} {ys : List Value} (i : Nat), bg_s v as ys → bg_L v (b_lvs i as) (lv_args i ys)
  | [], [], i, _ => fun k x h => by simp [b_lvs, b_get] at h
  | a :: as, y :: ys, i, h => by
    intro k x hx
    unfold b_lvs b_get at hx
    unfold lv_args q_get
    split at hx
    · rename_i hk
      have hk := Nat.eq_of_beq_eq_true hk
      cases hx
      rw [if_pos hk]
      exact ⟨y, rfl, h.1⟩
    · rename_i hk
      rw [if_neg (fun e => by simp only at e hk; rw [e, Nat.beq_refl] at hk; cases hk)]
      rw [← bg_cat h.1]
      exact b_lvs_ok _ h.2 k x hx
  | [], _ :: _, _, h => h.elim
  | _ :: _, [], _, h => h.elim
theorem b_call_ok (hM : bi_M I m) {M M1 : q_MI} {k : Nat} {sa as rest : List b_V} {st : List Value} (h : b_call G I M k sa = some (M1, as, rest)) (hs : bg_s v sa st) : ∃ ys rs, q_call G M k st m = some (M1, ys, rs) ∧ bg_s v as ys ∧ bg_s v rest rs ∧ (q_gM G)[k]? = some M1 := by
  unfold b_call at h
  split at h
  · cases h
  rename_i M2 hk
  split at h
  rotate_left
  · cases h
  rename_i hc
  obtain ⟨c1, c2, c3, c4, c5, c6⟩ := hc
  cases h
  have ht := g_2_take (q_na M1) hs
  have hd := g_2_drop (q_na M1) hs
  refine ⟨(st.take (q_na M1)).reverse, st.drop (q_na M1), ?_, g_2_rev ht, hd, hk⟩
  unfold q_call
  rw [hk]
  simp only
  have e1 := bg_ac ht
  have e2 := bg_ac hd
  have e3 := g_2_len hs
  rw [if_pos]
  refine ⟨by omega, by omega, c3, c4, by omega, ?_⟩
  have hr := g_2_rev ht
  generalize (st.take (q_na M1)).reverse = ys at hr ⊢
  generalize (sa.take (q_na M1)).reverse = xs at hr c6
  unfold b_rcv at c6
  unfold q_rcv
  split at c6
  · rename_i hk1
    rw [hk1]
    rfl
  · rename_i hk0
    rw [hk0]
    split at c6
    rotate_left
    · cases c6
    rename_i a as1
    obtain ⟨y, ys1, rfl, hy, -⟩ := g_ca hr
    have hy : y = .ref a := hy
    subst hy
    split at c6
    rotate_left
    · cases c6
    rename_i ci fs hI
    obtain ⟨y, hm, vs, rfl, -⟩ := bi_get hM hI
    simp only [hm]
    exact c6
  · cases c6
theorem b_ret_ok {B : a_B} (hB : g_B v B) {M : q_MI} {i : Instr} {sa ra : List b_V} {st : List Value} (h : b_ret B M i sa = some ra) (hs : bg_s v sa st) : ∃ r, q_retn M i st = some r ∧ bg_s v ra r.toList := by
  unfold b_ret at h
  split at h
  · split at h
    rotate_left
    · cases h
    rename_i x
    obtain ⟨y, ys, rfl, hy, hs1⟩ := g_ca hs
    have := g_na hs1
    subst this
    have hy0 := hy
    obtain ⟨w, rfl, hy⟩ := hy
    split at h
    · rename_i hR
      cases h
      exact ⟨some (.int w), by simp only [q_retn, hR]; rw [if_pos (show narrow .int (.int w) = .int w from rfl)], hy0, trivial⟩
    · rename_i hR
      split at h
      rotate_left
      · cases h
      rename_i hw
      cases h
      have h2 := b_within_ok hB hw hy
      refine ⟨some (.int w), ?_, hy0, trivial⟩
      simp only [q_retn, hR]
      rw [if_pos]
      have hw01 : w = 0 ∨ w = 1 := by
        rcases (show w.toInt = 0 ∨ w.toInt = 1 by omega) with e | e
        · exact Or.inl (Int32.toInt_inj.mp (by rw [e]; rfl))
        · exact Or.inr (Int32.toInt_inj.mp (by rw [e]; rfl))
      rcases hw01 with rfl | rfl <;> rfl
    · cases h
  · split at h
    rotate_left
    · cases h
    rename_i x
    split at h
    rotate_left
    · cases h
    rename_i hR
    cases h
    obtain ⟨y, ys, rfl, hy, hs1⟩ := g_ca hs
    have := g_na hs1
    subst this
    have hy0 := hy
    obtain ⟨w, rfl, hy⟩ := hy
    exact ⟨some (.long w), by simp only [q_retn]; rw [if_pos hR], hy0, trivial⟩
  · split at h
    rotate_left
    · cases h
    split at h
    rotate_left
    · cases h
    rename_i hR
    cases h
    have := g_na hs
    subst this
    exact ⟨none, by simp only [q_retn]; rw [if_pos hR], trivial⟩
  · cases h
end BCTL

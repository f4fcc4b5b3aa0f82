theorem bi_get {I : List b_I} {m : q_M} (h : bi_M I m) {a : Nat} {x : b_I} (hx : I[a]? = some x) : ∃ y, m[a]? = some y ∧ bi_c x y := g_2_get h hx
theorem bi_set {I : List b_I} {m : q_M} (h : bi_M I m) {a : Nat} {x : b_I} {y : q_E} (hx : I[a]? = some x) (hy : bi_c x y) : bi_M I (m.set a y) := by
  have e : I.set a x = I := by
    apply List.ext_getElem?
    intro i
    rw [List.getElem?_set]
    by_cases hi : a = i
    · subst hi
      have := (List.getElem?_eq_some_iff.mp hx).1
      rw [if_pos rfl, if_pos this, hx]
    · rw [if_neg hi]
  have := g_2_set h (i := a) hy
  rw [e] at this
  exact this
theorem q_at_setI {m : q_M} {a t n k : Nat} {f : Nat → Int32} {x : Int32} (h : m[a]? = some (.inl (t, n, .inl f))) : ∀ d j, ¬ (d = a ∧ j = k) → q_at (m.set a (.inl (t, n, .inl (upd f k x)))) d j = q_at m d j := by
  intro d j hn
  by_cases hd : d = a
  · subst hd
    rw [q_at_int (q_get_set h), q_at_int h]
    have : j ≠ k := fun e => hn ⟨rfl, e⟩
    simp [upd, this]
  · exact q_at_ne (fun e => hd e.symm)
theorem q_at_setL {m : q_M} {a t n k : Nat} {f : Nat → Int64} {x : Int64} (h : m[a]? = some (.inl (t, n, .inr (.inl f)))) : ∀ d j, ¬ (d = a ∧ j = k) → q_at (m.set a (.inl (t, n, .inr (.inl (vp_updL f k x))))) d j = q_at m d j := by
  intro d j hn
  by_cases hd : d = a
  · subst hd
    rw [q_at_long (q_get_set h), q_at_long h]
    have : j ≠ k := fun e => hn ⟨rfl, e⟩
    simp [vp_updL, this]
  · exact q_at_ne (fun e => hd e.symm)
theorem q_at_setF {m : q_M} {a ci k : Nat} {vs : List Value} {x : Value} (h : m[a]? = some (.inr (ci, vs))) : ∀ d j, ¬ (d = a ∧ j = k) → q_at (m.set a (.inr (ci, vs.set k x))) d j = q_at m d j := by
  intro d j hn
  by_cases hd : d = a
  · subst hd
    rw [q_at_obj (q_get_set h), q_at_obj h]
    have : k ≠ j := fun e => hn ⟨rfl, e.symm⟩
    rw [List.getD_eq_getElem?_getD, List.getD_eq_getElem?_getD, List.getElem?_set_ne this]
  · exact q_at_ne (fun e => hd e.symm)
theorem bg_ac {v : List Int} : ∀ {sa : List b_V} {st : List Value}, bg_s v sa st → b_ac sa = q_cats st
  | [], [], _ => rfl
  | x :: sa, y :: st, h => by
    have ih := bg_ac h.2
    have hc := bg_cat h.1
    simp only [b_ac, q_cats, List.map_cons, List.sum_cons] at ih ⊢
    omega
  | [], _ :: _, h => h.elim
  | _ :: _, [], h => h.elim
theorem b_far {d a j k lo hi : Nat} (h1 : lo ≤ k) (h2 : k ≤ hi) (h : ¬ (d = a ∧ lo ≤ j ∧ j ≤ hi)) : ¬ (d = a ∧ j = k) := by
  rintro ⟨e1, e2⟩
  exact h ⟨e1, by omega, by omega⟩
theorem b_fitok {ty : FieldType} {lg : Bool} {v : List Int} {e : b_T} {y : Value} (h : b_fit ty lg = true) (hy : bg_n v (lg, e) y) : narrow ty y = y ∧ fits ty y = true := by
  cases lg with
  | false =>
    obtain ⟨z, rfl, -⟩ := hy
    cases ty <;> first | exact ⟨rfl, rfl⟩ | cases h
  | true =>
    obtain ⟨z, rfl, -⟩ := hy
    cases ty <;> first | exact ⟨rfl, rfl⟩ | cases h
theorem b_cpyI {m : q_M} {a t n sp dp w : Nat} {f g : Nat → Int32} (h : m[a]? = some (.inl (t, n, .inl g))) (hn : 0 < n) (hw : dp + w ≤ n) : ∀ d j, ¬ (d = a ∧ 0 ≤ j ∧ j ≤ n - 1) → q_at (m.set a (.inl (t, n, .inl (va_cpy f g sp dp w)))) d j = q_at m d j := by
  intro d j hj
  by_cases hd : d = a
  · subst hd
    rw [q_at_int (q_get_set h), q_at_int h]
    unfold va_cpy
    rw [if_neg (by omega)]
  · exact q_at_ne (fun e => hd e.symm)
theorem b_cpyL {m : q_M} {a t n sp dp w : Nat} {f g : Nat → Int64} (h : m[a]? = some (.inl (t, n, .inr (.inl g)))) (hn : 0 < n) (hw : dp + w ≤ n) : ∀ d j, ¬ (d = a ∧ 0 ≤ j ∧ j ≤ n - 1) → q_at (m.set a (.inl (t, n, .inr (.inl (va_cpy f g sp dp w))))) d j = q_at m d j := by
  intro d j hj
  by_cases hd : d = a
  · subst hd
    rw [q_at_long (q_get_set h), q_at_long h]
    unfold va_cpy
    rw [if_neg (by omega)]
  · exact q_at_ne (fun e => hd e.symm)
theorem b_nn {x : Int32} (h : 0 ≤ x.toInt) : ¬ x < 0 ∧ (x.toNatClampNeg : Int) = x.toInt := by
  have h2 := Int32.toInt_lt x
  obtain ⟨-, h3, -, h4⟩ := g_ix (j := x) (n := 2 ^ 31) h (by omega)
  exact ⟨h4, h3⟩
section BMEMG
variable {F : Nat → List Int → q_M → Prop} {fp : Nat → b_W} {v : List Int} {E : b_E} {m : q_M} {I : List b_I} {W : b_W} {G : q_G}
set_option maxHeartbeats 4000000 in
theorem b_mem_ok {sto : b_Sto} (hSt : bg_Sto I F sto) {rdb : b_Rdb} (hRd : bg_Rdb I F rdb) {fr lo : Nat} {i : Instr} {sa : List b_V} {st : List Value} {xs : List b_X} (h : b_mem G I W fp sto rdb fr lo i E sa = some xs) (hF : bg_F I fp F) (hE : bg_E F v E m) (hM : bi_M I m) (hs : bg_s v sa st) : bg_X I W F v m xs (q_mem G fr lo i st m) := by
  unfold b_mem at h
  split at h
  · -- getfield
    rename_i n
    split at h
    rotate_left
    · cases h
    rename_i a r
    obtain ⟨y, ys, rfl, hy, hs1⟩ := g_ca hs
    have hy : y = .ref a := hy
    subst hy
    split at h
    rotate_left
    · cases h
    rename_i ci fs hI
    obtain ⟨y, hm, vs, rfl, hvs⟩ := bi_get hM hI
    split at h
    rotate_left
    · cases h
    rename_i hci
    split at h
    · rename_i c hf
      cases h
      obtain ⟨x, hx, hxv⟩ := g_2_get hvs hf
      have hxv : x = .ref c := hxv
      subst hxv
      exact bg_X0 (st := .ref c :: ys) (by simp only [q_mem, hm, if_pos hci, hx]) hE ⟨rfl, hs1⟩ hM q_same.rf
    · rename_i lg l h0 hf
      cases h
      obtain ⟨x, hx, hxv⟩ := g_2_get hvs hf
      have e1 : q_at m a (n % 64) = x := by rw [q_at_obj hm, List.getD_eq_getElem?_getD, hx]; rfl
      cases lg with
      | false =>
        obtain ⟨z, rfl, z1, z2⟩ := hxv
        exact b_rd_ok (c := a) (j := n % 64) (lg := false) (z := z.toInt) hE hM (b_is_c _) z1 z2 ⟨z, e1, rfl⟩ hs1 (by rw [e1]; simp only [q_mem, hm, if_pos hci, hx])
      | true =>
        obtain ⟨z, rfl, z1, z2⟩ := hxv
        exact b_rd_ok (c := a) (j := n % 64) (lg := true) (z := z.toInt) hE hM (b_is_c _) z1 z2 ⟨z, e1, rfl⟩ hs1 (by rw [e1]; simp only [q_mem, hm, if_pos hci, hx])
    · cases h
  · -- putfield
    rename_i n
    split at h
    rotate_left
    · cases h
    rename_i lg e a r
    obtain ⟨x, xs1, rfl, hx, hs1⟩ := g_ca hs
    replace hs := hs1
    clear hs1
    obtain ⟨y, ys, rfl, hy, hs1⟩ := g_ca hs
    have hy : y = .ref a := hy
    subst hy
    split at h
    rotate_left
    · cases h
    rename_i ci fs hI
    obtain ⟨y, hm, vs, rfl, hvs⟩ := bi_get hM hI
    split at h
    rotate_left
    · cases h
    rename_i lg1 l h0 hf
    split at h
    rotate_left
    · cases h
    rename_i hc
    obtain ⟨hci, rfl, hfit, hin, hW⟩ := hc
    cases h
    have hlt : n % 64 < vs.length := by rw [← g_2_len hvs]; exact (List.getElem?_eq_some_iff.mp hf).1
    obtain ⟨hn, hft⟩ := b_fitok hfit hx
    have hch := q_at_setF (k := n % 64) (x := x) hm
    have hch2 : ∀ d j, ¬ (d = a ∧ n % 64 ≤ j ∧ j ≤ n % 64) → q_at (m.set a (.inr (ci, vs.set (n % 64) x))) d j = q_at m d j := fun d j hd => hch d j (b_far (Nat.le_refl _) (Nat.le_refl _) hd)
    have hat : q_at (m.set a (.inr (ci, vs.set (n % 64) x))) a (n % 64) = x := by
      rw [q_at_obj (q_get_set hm), List.getD_eq_getElem?_getD, List.getElem?_set_self hlt]
      rfl
    suffices hM1 : bi_M I (m.set a (.inr (ci, vs.set (n % 64) x))) by
      exact bg_X0 (st := ys) (m1 := m.set a (.inr (ci, vs.set (n % 64) x))) (by simp only [q_mem, hm]; rw [if_pos ⟨hci, hlt, hn, hft⟩]) (b_wr_ok hF hSt hE hM hM1 hch (Nat.le_refl _) (Nat.le_refl _) (b_is_c _) (by rw [hat]; exact hx)) hs1 hM1 (b_same_of hW hch2)
    refine bi_set hM hI ⟨_, rfl, ?_⟩
    have e9 : fs.set (n % 64) (.inl (lg, l, h0)) = fs := by
      apply List.ext_getElem?
      intro i
      rw [List.getElem?_set]
      by_cases hi : n % 64 = i
      · subst hi
        rw [if_pos rfl, if_pos (List.getElem?_eq_some_iff.mp hf).1, hf]
      · rw [if_neg hi]
    have := g_2_set hvs (i := n % 64) (a := .inl (lg, l, h0)) (b := x) (by
      cases lg with
      | false =>
        obtain ⟨z, rfl, hz⟩ := hx
        have := b_inb_ok hE hin hz
        exact ⟨z, rfl, this⟩
      | true =>
        obtain ⟨z, rfl, hz⟩ := hx
        have := b_inb_ok hE hin hz
        exact ⟨z, rfl, this⟩)
    rw [e9] at this
    exact this
  · -- iaload
    split at h
    rotate_left
    · cases h
    rename_i x a r
    obtain ⟨y0, ys0, rfl, hy0, hs1⟩ := g_ca hs
    replace hs := hs1
    clear hs1
    obtain ⟨j, rfl, hj⟩ := hy0
    obtain ⟨y, ys, rfl, hy, hs1⟩ := g_ca hs
    have hy : y = .ref a := hy
    subst hy
    split at h
    rotate_left
    · cases h
    rename_i t n ex l h0 hI
    obtain ⟨y, hm, f, rfl, hf1, hf2, hf3⟩ := bi_get hM hI
    split at h
    rotate_left
    · cases h
    rename_i hc
    cases h
    obtain ⟨g1, g2, g3⟩ := b_idx_ok hE hc.2 hj
    replace hj : b_is v x (j.toNatClampNeg : Int) := by rw [g2]; exact hj
    have hb0 := b_bnd_ok hE.2.1 hj g3 hf1 hf2
    have hb : (b_rdi rdb E a x (b_bnd E.2.1 ex l h0 x)).1 ≤ (f j.toNatClampNeg).toInt ∧ (f j.toNatClampNeg).toInt ≤ (b_rdi rdb E a x (b_bnd E.2.1 ex l h0 x)).2 := by
      unfold b_rdi
      split
      · exact hb0
      · split
        · rename_i q hq
          exact hRd.2 v E m a x _ _ q hE hM hj (q_at_int hm) hq
        · exact hb0
    exact b_rd_ok (c := a) (lg := false) (j := j.toNatClampNeg) hE hM hj hb.1 hb.2 ⟨_, q_at_int hm, rfl⟩ hs1 (by rw [q_at_int hm]; simp only [q_mem, hm]; rw [if_pos ⟨hc.1, g1⟩])
  · -- baload
    split at h
    rotate_left
    · cases h
    rename_i x a r
    obtain ⟨y0, ys0, rfl, hy0, hs1⟩ := g_ca hs
    replace hs := hs1
    clear hs1
    obtain ⟨j, rfl, hj⟩ := hy0
    obtain ⟨y, ys, rfl, hy, hs1⟩ := g_ca hs
    have hy : y = .ref a := hy
    subst hy
    split at h
    rotate_left
    · cases h
    rename_i t n ex l h0 hI
    obtain ⟨y, hm, f, rfl, hf1, hf2, hf3⟩ := bi_get hM hI
    split at h
    rotate_left
    · cases h
    rename_i hc
    cases h
    obtain ⟨g1, g2, g3⟩ := b_idx_ok hE hc.2 hj
    replace hj : b_is v x (j.toNatClampNeg : Int) := by rw [g2]; exact hj
    have hb := b_bnd_ok hE.2.1 hj g3 hf1 hf2
    exact b_rd_ok (c := a) (lg := false) (j := j.toNatClampNeg) hE hM hj hb.1 hb.2 ⟨_, q_at_int hm, rfl⟩ hs1 (by rw [q_at_int hm]; simp only [q_mem, hm]; rw [if_pos ⟨hc.1, g1⟩])
  · -- laload
    split at h
    rotate_left
    · cases h
    rename_i x a r
    obtain ⟨y0, ys0, rfl, hy0, hs1⟩ := g_ca hs
    replace hs := hs1
    clear hs1
    obtain ⟨j, rfl, hj⟩ := hy0
    obtain ⟨y, ys, rfl, hy, hs1⟩ := g_ca hs
    have hy : y = .ref a := hy
    subst hy
    split at h
    rotate_left
    · cases h
    rename_i t n u hI
    obtain ⟨y, hm, f, rfl, hf3⟩ := bi_get hM hI
    split at h
    rotate_left
    · cases h
    rename_i hc
    cases h
    obtain ⟨g1, g2, g3⟩ := b_idx_ok hE hc.2 hj
    replace hj : b_is v x (j.toNatClampNeg : Int) := by rw [g2]; exact hj
    have hb : (b_rdl rdb E a x).1 ≤ (f j.toNatClampNeg).toInt ∧ (f j.toNatClampNeg).toInt ≤ (b_rdl rdb E a x).2 := by
      unfold b_rdl
      split
      · exact g_in64 _
      · split
        · rename_i q hq
          exact hRd.1 v E m a x _ _ q hE hM hj (q_at_long hm) hq
        · exact g_in64 _
    exact b_rd_ok (c := a) (j := j.toNatClampNeg) (lg := true) hE hM hj hb.1 hb.2 ⟨_, q_at_long hm, rfl⟩ hs1 (by rw [q_at_long hm]; simp only [q_mem, hm]; rw [if_pos ⟨hc.1, g1⟩])
  · -- aaload
    split at h
    rotate_left
    · cases h
    rename_i x a r
    obtain ⟨y0, ys0, rfl, hy0, hs1⟩ := g_ca hs
    replace hs := hs1
    clear hs1
    obtain ⟨j, rfl, hj⟩ := hy0
    obtain ⟨y, ys, rfl, hy, hs1⟩ := g_ca hs
    have hy : y = .ref a := hy
    subst hy
    split at h
    rotate_left
    · cases h
    rename_i t n rs hI
    obtain ⟨y, hm, f, rfl, hlen, hf⟩ := bi_get hM hI
    split at h
    rotate_left
    · cases h
    rename_i hc
    cases h
    obtain ⟨g1, g2, g3⟩ := b_idx_ok hE hc.2.2 hj
    have hlt : j.toNatClampNeg < rs.length := by omega
    have hfj := (hf j.toNatClampNeg).trans (List.getElem?_eq_getElem hlt)
    exact b_refs_ok hE hM hs1 hj rs 0 j.toNatClampNeg _ (List.getElem?_eq_getElem hlt) (by omega) (res := q_mem G fr lo .aaload (.int j :: .ref a :: ys) m) (by simp only [q_mem, hm]; rw [if_pos ⟨hc.1, g1, hc.2.1⟩, hfj]; rfl)
  · -- iastore
    split at h
    rotate_left
    · cases h
    rename_i e x a r
    obtain ⟨x0, xs0, rfl, hx0, hs1⟩ := g_ca hs
    replace hs := hs1
    clear hs1
    have hx1 := hx0
    obtain ⟨w, rfl, hw⟩ := hx0
    obtain ⟨y0, ys0, rfl, hy0, hs1⟩ := g_ca hs
    replace hs := hs1
    clear hs1
    obtain ⟨j, rfl, hj⟩ := hy0
    obtain ⟨y, ys, rfl, hy, hs1⟩ := g_ca hs
    have hy : y = .ref a := hy
    subst hy
    split at h
    rotate_left
    · cases h
    rename_i t n ex l h0 hI
    obtain ⟨y, hm, f, rfl, hf1, hf2, hf3⟩ := bi_get hM hI
    split at h
    rotate_left
    · cases h
    rename_i hc
    obtain ⟨ht, hi, hb, hex, hW⟩ := hc
    cases h
    obtain ⟨g1, g2, g3⟩ := b_idx_ok hE hi hj
    replace hj : b_is v x (j.toNatClampNeg : Int) := by rw [g2]; exact hj
    have hr := b_rg_ok hE hj g3
    have hch := q_at_setI (k := j.toNatClampNeg) (x := w) hm
    have hch2 : ∀ d k, ¬ (d = a ∧ (b_rg E.2.1 x n).1 ≤ k ∧ k ≤ (b_rg E.2.1 x n).2) → q_at (m.set a (.inl (t, n, .inl (upd f j.toNatClampNeg w)))) d k = q_at m d k := fun d k hd => hch d k (b_far hr.1 hr.2 hd)
    have hat : q_at (m.set a (.inl (t, n, .inl (upd f j.toNatClampNeg w)))) a j.toNatClampNeg = .int w := by
      rw [q_at_int (q_get_set hm)]
      simp [upd]
    suffices hM1 : bi_M I (m.set a (.inl (t, n, .inl (upd f j.toNatClampNeg w)))) by
      exact bg_X0 (st := ys) (m1 := m.set a (.inl (t, n, .inl (upd f j.toNatClampNeg w)))) (by simp only [q_mem, hm]; rw [if_pos ⟨ht, g1⟩]) (b_wr_ok hF hSt hE hM hM1 hch hr.1 hr.2 hj (by rw [hat]; exact hx1)) hs1 hM1 (b_same_of hW hch2)
    refine bi_set hM hI ⟨_, rfl, ?_, ?_, fun k hk => by simp only [upd, if_neg (show k ≠ j.toNatClampNeg by omega)]; exact hf3 k hk⟩
    · intro k hk
      by_cases hkj : k = j.toNatClampNeg
      · subst hkj
        have := b_inb_ok hE hb hw
        simp only [upd, if_pos]
        exact this
      · simp only [upd, if_neg hkj]
        exact hf1 k hk
    · intro q hq
      by_cases hkj : q.1 = j.toNatClampNeg
      · have h9 := List.all_eq_true.mp hex q hq
        rw [Bool.or_eq_true] at h9
        rcases h9 with h9 | h9
        · simp only [Bool.not_eq_true', decide_eq_false_iff_not] at h9
          omega
        · rw [Bool.or_eq_true] at h9
          rcases h9 with h9 | h9
          · have := b_inb_ok hE h9 hw
            simp only [upd, if_pos hkj]
            exact this
          · have := b_cpx_ok hE hM h9 (by rw [hkj]; exact hj) hw
            simp only [upd, if_pos hkj]
            exact this
      · simp only [upd, if_neg hkj]
        exact hf2 q hq
  · -- bastore
    split at h
    rotate_left
    · cases h
    rename_i e x a r
    obtain ⟨x0, xs0, rfl, hx0, hs1⟩ := g_ca hs
    replace hs := hs1
    clear hs1
    obtain ⟨w, rfl, hw⟩ := hx0
    obtain ⟨y0, ys0, rfl, hy0, hs1⟩ := g_ca hs
    replace hs := hs1
    clear hs1
    obtain ⟨j, rfl, hj⟩ := hy0
    obtain ⟨y, ys, rfl, hy, hs1⟩ := g_ca hs
    have hy : y = .ref a := hy
    subst hy
    split at h
    rotate_left
    · cases h
    rename_i t n l h0 hI
    obtain ⟨y, hm, f, rfl, hf1, hf2, hf3⟩ := bi_get hM hI
    split at h
    rotate_left
    · cases h
    rename_i hc
    obtain ⟨ht, hi, hW⟩ := hc
    cases h
    obtain ⟨g1, g2, g3⟩ := b_idx_ok hE hi hj
    replace hj : b_is v x (j.toNatClampNeg : Int) := by rw [g2]; exact hj
    have hr := b_rg_ok hE hj g3
    have key : ∀ u : Int32, l ≤ u.toInt ∧ u.toInt ≤ h0 → q_mem G fr lo .bastore (.int w :: .int j :: .ref a :: ys) m = some (ys, m.set a (.inl (t, n, .inl (upd f j.toNatClampNeg u)))) → (t = 3 → b_inb E e 0 1 = true → u = w) → bg_X I W F v m [(b_wb fp sto E t a (b_rg E.2.1 x n).1 (b_rg E.2.1 x n).2 x e, r)] (q_mem G fr lo .bastore (.int w :: .int j :: .ref a :: ys) m) := by
      intro u hu hq hu1
      have hch := q_at_setI (k := j.toNatClampNeg) (x := u) hm
      have hch2 : ∀ d k, ¬ (d = a ∧ (b_rg E.2.1 x n).1 ≤ k ∧ k ≤ (b_rg E.2.1 x n).2) → q_at (m.set a (.inl (t, n, .inl (upd f j.toNatClampNeg u)))) d k = q_at m d k := fun d k hd => hch d k (b_far hr.1 hr.2 hd)
      suffices hM1 : bi_M I (m.set a (.inl (t, n, .inl (upd f j.toNatClampNeg u)))) by
        refine bg_X0 hq ?_ hs1 hM1 (b_same_of hW hch2)
        unfold b_wb
        split
        · exact b_wr0_ok hF hE hM hM1 hch2
        · split
          · rename_i hc1
            have eu := hu1 hc1.1 hc1.2
            subst eu
            have hlt := (List.getElem?_eq_some_iff.mp hm).1
            have hat : q_at (m.set a (.inl (t, n, .inl (upd f j.toNatClampNeg u)))) a j.toNatClampNeg = .int u := by
              rw [q_at_int (t := t) (n := n) (f := upd f j.toNatClampNeg u) (by rw [List.getElem?_set_self hlt])]
              simp [upd]
            exact b_wr_ok hF hSt hE hM hM1 hch hr.1 hr.2 hj (by rw [hat]; exact ⟨u, rfl, hw⟩)
          · exact b_wr0_ok hF hE hM hM1 hch2
      refine bi_set hM hI ⟨_, rfl, ?_, fun q hq => by (cases hq), fun k hk => by simp only [upd, if_neg (show k ≠ j.toNatClampNeg by omega)]; exact hf3 k hk⟩
      intro k hk
      by_cases hkj : k = j.toNatClampNeg
      · subst hkj
        simp only [upd, if_pos]
        exact hu
      · simp only [upd, if_neg hkj]
        exact hf1 k hk
    rcases ht with ⟨rfl, t1, t2⟩ | ⟨rfl, t1, t2⟩
    · have hb8 := g_b8 w
      exact key (vp_nar .byte w) ⟨by show l ≤ (w.toInt8.toInt32).toInt; omega, by show (w.toInt8.toInt32).toInt ≤ h0; omega⟩ (by simp only [q_mem, hm]; rw [if_pos ⟨trivial, g1⟩]) (fun z => absurd z (by decide))
    · have hb1 := g_bool w
      exact key (vp_nar .boolean w) ⟨by omega, by omega⟩ (by simp only [q_mem, hm]; rw [if_neg (fun z => absurd z.1 (by decide)), if_pos ⟨trivial, g1⟩]) (fun _ hin => by
        have hb := b_inb_ok hE hin hw
        have : w = 0 ∨ w = 1 := by
          rcases (show w.toInt = 0 ∨ w.toInt = 1 by omega) with h | h
          · exact Or.inl (Int32.toInt_inj.mp h)
          · exact Or.inr (Int32.toInt_inj.mp h)
        rcases this with rfl | rfl <;> rfl)
  · -- lastore
    split at h
    rotate_left
    · cases h
    rename_i e x a r
    obtain ⟨x0, xs0, rfl, hx0, hs1⟩ := g_ca hs
    replace hs := hs1
    clear hs1
    have hx1 := hx0
    obtain ⟨w, rfl, hw⟩ := hx0
    obtain ⟨y0, ys0, rfl, hy0, hs1⟩ := g_ca hs
    replace hs := hs1
    clear hs1
    obtain ⟨j, rfl, hj⟩ := hy0
    obtain ⟨y, ys, rfl, hy, hs1⟩ := g_ca hs
    have hy : y = .ref a := hy
    subst hy
    split at h
    rotate_left
    · cases h
    rename_i t n u hI
    obtain ⟨y, hm, f, rfl, hf3⟩ := bi_get hM hI
    split at h
    rotate_left
    · cases h
    rename_i hc
    obtain ⟨ht, hi, hW⟩ := hc
    cases h
    obtain ⟨g1, g2, g3⟩ := b_idx_ok hE hi hj
    replace hj : b_is v x (j.toNatClampNeg : Int) := by rw [g2]; exact hj
    have hr := b_rg_ok hE hj g3
    have hch := q_at_setL (k := j.toNatClampNeg) (x := w) hm
    have hch2 : ∀ d k, ¬ (d = a ∧ (b_rg E.2.1 x n).1 ≤ k ∧ k ≤ (b_rg E.2.1 x n).2) → q_at (m.set a (.inl (t, n, .inr (.inl (vp_updL f j.toNatClampNeg w))))) d k = q_at m d k := fun d k hd => hch d k (b_far hr.1 hr.2 hd)
    have hat : q_at (m.set a (.inl (t, n, .inr (.inl (vp_updL f j.toNatClampNeg w))))) a j.toNatClampNeg = .long w := by
      rw [q_at_long (q_get_set hm)]
      simp [vp_updL]
    have hM1 : bi_M I (m.set a (.inl (t, n, .inr (.inl (vp_updL f j.toNatClampNeg w))))) := bi_set hM hI ⟨_, rfl, fun k hk => by simp only [vp_updL, if_neg (show k ≠ j.toNatClampNeg by omega)]; exact hf3 k hk⟩
    exact bg_X0 (st := ys) (m1 := m.set a (.inl (t, n, .inr (.inl (vp_updL f j.toNatClampNeg w))))) (by simp only [q_mem, hm]; rw [if_pos ⟨ht, g1⟩]) (b_wr_ok hF hSt hE hM hM1 hch hr.1 hr.2 hj (by rw [hat]; exact hx1)) hs1 hM1 (b_same_of hW hch2)
  · -- arraylength
    split at h
    rotate_left
    · cases h
    rename_i a r
    obtain ⟨y, ys, rfl, hy, hs1⟩ := g_ca hs
    have hy : y = .ref a := hy
    subst hy
    split at h
    rotate_left
    · cases h
    rename_i t n u hI
    obtain ⟨y, hm, hy⟩ := bi_get hM hI
    split at h
    rotate_left
    · cases h
    rename_i hc
    cases h
    have fin : ∀ z, y = .inl (t, n, z) → bg_X I W F v m [(E, .inl (false, b_c n) :: r)] (q_mem G fr lo .arraylength (.ref a :: ys) m) := by
      rintro z rfl
      exact bg_X0 (st := .int (Int32.ofNat n) :: ys) (by simp only [q_mem, hm]; rw [if_pos hc.1]) hE ⟨⟨_, rfl, by rw [g_len hc.2]; exact b_is_c _⟩, hs1⟩ hM q_same.rf
    match u, hy with
    | .inl (ex, l, h0), ⟨f, hf, _⟩ => exact fin _ hf
    | .inr (.inl _), ⟨f, hf, _⟩ => exact fin _ hf
    | .inr (.inr rs), ⟨f, hf, _⟩ => exact fin _ hf
  · -- copies and texts
    rename_i n
    split at h
    · rename_i hn
      subst hn
      split at h
      rotate_left
      · cases h
      rename_i w dp d sp j r
      split at h
      rotate_left
      · cases h
      rename_i hfl
      obtain ⟨x0, xs0, rfl, hx0, hs1⟩ := g_ca hs
      replace hs := hs1
      clear hs1
      obtain ⟨cw, rfl, hw⟩ := hx0
      obtain ⟨x0, xs0, rfl, hx0, hs1⟩ := g_ca hs
      replace hs := hs1
      clear hs1
      obtain ⟨cd, rfl, hd⟩ := hx0
      obtain ⟨y, ys, rfl, hy, hs1⟩ := g_ca hs
      replace hs := hs1
      clear hs1
      have hy : y = .ref d := hy
      subst hy
      obtain ⟨x0, xs0, rfl, hx0, hs1⟩ := g_ca hs
      replace hs := hs1
      clear hs1
      obtain ⟨cs, rfl, hsp⟩ := hx0
      obtain ⟨y, ys, rfl, hy, hs1⟩ := g_ca hs
      replace hs := hs1
      clear hs1
      have hy : y = .ref j := hy
      subst hy
      have hac := bg_ac hs
      unfold b_cpy at h
      split at h
      · rename_i t0 n0 ex0 l0 h00 t1 n1 l1 h1 hj hd1
        obtain ⟨y1, hm1, f, rfl, hf1, hf2, hf3⟩ := bi_get hM hj
        obtain ⟨y2, hm2, g, rfl, hg1, hg2, hg3⟩ := bi_get hM hd1
        split at h
        rotate_left
        · cases h
        rename_i hc
        obtain ⟨rfl, rfl, c1, c2, c3, c4, c5, c6, c7, c8, hW⟩ := hc
        cases h
        have k1 := b_ent_ok hE.2.1 hE.2.2.1 c4 hw
        have k2 := b_ent_ok hE.2.1 hE.2.2.1 c5 hd
        have k3 := b_ent_ok hE.2.1 hE.2.2.1 c6 hsp
        have k4 := b_ent_ok hE.2.1 hE.2.2.1 c7 (b_is_ad (k := -1) (b_is_ad (k := -1) (b_is_c (n0 : Int)) hsp) hw)
        have k5 := b_ent_ok hE.2.1 hE.2.2.1 c8 (b_is_ad (k := -1) (b_is_ad (k := -1) (b_is_c (n1 : Int)) hd) hw)
        obtain ⟨p1, p2⟩ := b_nn k1
        obtain ⟨p3, p4⟩ := b_nn k2
        obtain ⟨p5, p6⟩ := b_nn k3
        have hch := b_cpyI (f := f) (sp := cs.toNatClampNeg) (dp := cd.toNatClampNeg) (w := cw.toNatClampNeg) hm2 c3 (by omega)
        have hM1 : bi_M I (m.set d (.inl (0, n1, .inl (va_cpy f g cs.toNatClampNeg cd.toNatClampNeg cw.toNatClampNeg)))) := by
          refine bi_set hM hd1 ⟨_, rfl, ?_, fun q hq => by (cases hq), fun k hk => ?_⟩
          · intro k hk
            unfold va_cpy
            split
            · have := hf1 (cs.toNatClampNeg + (k - cd.toNatClampNeg)) (by omega)
              omega
            · exact hg1 k hk
          · unfold va_cpy
            rw [if_neg (by omega)]
            exact hg3 k hk
        refine bg_X0 (st := ys) (m1 := m.set d (.inl (0, n1, .inl (va_cpy f g cs.toNatClampNeg cd.toNatClampNeg cw.toNatClampNeg)))) ?_ (b_wr0_ok hF hE hM hM1 hch) hs hM1 (b_same_of hW hch)
        · simp only [q_mem]
          rw [if_neg (by decide), if_pos trivial]
          unfold q_copy
          simp only
          rw [if_pos ⟨hfl.1, by omega, p5, p3, p1⟩]
          unfold q_cpy
          rw [hm1, hm2]
          simp only
          rw [if_pos ⟨trivial, trivial, by omega, by omega⟩]
      · rename_i t0 n0 u0 t1 n1 u1 hj hd1
        obtain ⟨y1, hm1, f, rfl, hf3⟩ := bi_get hM hj
        obtain ⟨y2, hm2, g, rfl, hg3⟩ := bi_get hM hd1
        split at h
        rotate_left
        · cases h
        rename_i hc
        obtain ⟨rfl, rfl, c3, c4, c5, c6, c7, c8, hW⟩ := hc
        cases h
        have k1 := b_ent_ok hE.2.1 hE.2.2.1 c4 hw
        have k2 := b_ent_ok hE.2.1 hE.2.2.1 c5 hd
        have k3 := b_ent_ok hE.2.1 hE.2.2.1 c6 hsp
        have k4 := b_ent_ok hE.2.1 hE.2.2.1 c7 (b_is_ad (k := -1) (b_is_ad (k := -1) (b_is_c (n0 : Int)) hsp) hw)
        have k5 := b_ent_ok hE.2.1 hE.2.2.1 c8 (b_is_ad (k := -1) (b_is_ad (k := -1) (b_is_c (n1 : Int)) hd) hw)
        obtain ⟨p1, p2⟩ := b_nn k1
        obtain ⟨p3, p4⟩ := b_nn k2
        obtain ⟨p5, p6⟩ := b_nn k3
        have hch := b_cpyL (f := f) (sp := cs.toNatClampNeg) (dp := cd.toNatClampNeg) (w := cw.toNatClampNeg) hm2 c3 (by omega)
        have hM1 : bi_M I (m.set d (.inl (1, n1, .inr (.inl (va_cpy f g cs.toNatClampNeg cd.toNatClampNeg cw.toNatClampNeg))))) := by
          refine bi_set hM hd1 ⟨_, rfl, fun k hk => ?_⟩
          unfold va_cpy
          rw [if_neg (by omega)]
          exact hg3 k hk
        refine bg_X0 (st := ys) (m1 := m.set d (.inl (1, n1, .inr (.inl (va_cpy f g cs.toNatClampNeg cd.toNatClampNeg cw.toNatClampNeg))))) ?_ (b_wr0_ok hF hE hM hM1 hch) hs hM1 (b_same_of hW hch)
        · simp only [q_mem]
          rw [if_neg (by decide), if_pos trivial]
          unfold q_copy
          simp only
          rw [if_pos ⟨hfl.1, by omega, p5, p3, p1⟩]
          unfold q_cpy
          rw [hm1, hm2]
          simp only
          rw [if_pos ⟨trivial, trivial, by omega, by omega⟩]
      · cases h
    · split at h
      · rename_i hn1 hn
        subst hn
        split at h
        rotate_left
        · cases h
        rename_i a r
        obtain ⟨y, ys, rfl, hy, hs1⟩ := g_ca hs
        have hy : y = .retAddr (a + 1) := hy
        subst hy
        split at h
        rotate_left
        · cases h
        rename_i x hx
        split at h
        rotate_left
        · cases h
        rename_i hc
        cases h
        have hac := bg_ac hs1
        exact bg_X0 (st := .int (Int32.ofNat x.2.2.2.length) :: ys) (by simp only [q_mem]; rw [if_neg (by decide), if_neg (by decide), if_pos trivial]; simp only [hx]; rw [if_pos ⟨hc.1, by omega, hc.2.2.1⟩]) hE ⟨⟨_, rfl, by rw [g_len hc.2.2.2]; exact b_is_c _⟩, hs1⟩ hM q_same.rf
      · split at h
        rotate_left
        · cases h
        rename_i hn1 hn2 hn
        subst hn
        split at h
        rotate_left
        · cases h
        rename_i j a r
        obtain ⟨y0, ys0, rfl, hy0, hs1⟩ := g_ca hs
        replace hs := hs1
        clear hs1
        obtain ⟨cj, rfl, hj⟩ := hy0
        obtain ⟨y, ys, rfl, hy, hs1⟩ := g_ca hs
        have hy : y = .retAddr (a + 1) := hy
        subst hy
        split at h
        rotate_left
        · cases h
        rename_i x hx
        split at h
        rotate_left
        · cases h
        rename_i hc
        obtain ⟨g1, g2, g3⟩ := b_idx_ok hE hc.2.2.2 hj
        have hac := bg_ac hs1
        have hz := g_and_r (x := x.2.2.2.getD cj.toNatClampNeg 0) (y := 255) (by decide)
        have hR := b_new_ok hE.1 hE.2.1 hE.2.2.1 (lg := false) (lo := 0) (hi := 255) hz.1 hz.2
        split at h
        rename_i k B C vv hvv
        cases h
        rw [hvv] at hR
        obtain ⟨t1, e1, e2, e3, e4, e5⟩ := hR
        obtain ⟨lg1, ee⟩ := vv
        simp only at e1 e2 e3 e4 e5
        subst e4
        refine ⟨_, List.mem_singleton.mpr rfl, t1, .int (x.2.2.2.getD cj.toNatClampNeg 0 &&& 255) :: ys, m, ?_, ⟨e1, e2, e3, fun o ho => bg_O_ext (hE.2.2.2.1 o ho), fun t ht => bg_Q_ext (hE.2.2.2.2 t ht)⟩, ⟨⟨_, rfl, e5⟩, bg_s_ext hs1⟩, hM, q_same.rf⟩
        simp only [q_mem]
        rw [if_neg (by decide), if_neg (by decide), if_neg (by decide), if_pos trivial]
        simp only [hx]
        rw [if_pos ⟨hc.1, by omega, hc.2.2.1, g1⟩]
  · cases h
end BMEMG

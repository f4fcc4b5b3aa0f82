theorem g_dft {b : Nat} {v : List Int} {ty : FieldType} {x : a_V} (h : a_dft ty = some x) : g_v b v x (defaultValue ty) := by
  cases ty <;> simp only [a_dft] at h <;> first
    | (cases h; done)
    | (cases h; exact ⟨0, rfl, rfl⟩)
    | (cases h; rfl)
theorem g_dfs {b : Nat} {v : List Int} {Y : Nat → FieldType} : ∀ {n : Nat} {l : List a_V}, a_dfs Y n = some l → g_s b v l ((List.range n).map (fun k => defaultValue (Y k)))
  | 0, l, h => by
    cases h
    trivial
  | n + 1, l, h => by
    unfold a_dfs at h
    split at h
    · rename_i l1 x h1 h2
      cases h
      rw [List.range_succ, List.map_append]
      exact g_2_app (g_dfs h1) ⟨g_dft h2, trivial⟩
    · cases h
theorem g_cel {G : q_G} {b : Nat} {v : List Int} {B : a_B} {i : Instr} {sa sa1 : List a_V} {ma : List a_C} {x : a_C} {st : List Value} {m : q_M} (h : a_cel G B i sa ma = some (sa1, x)) (hB : g_B v B) (hs : g_s b v sa st) (hM : g_M b v ma m) : ∃ st1 y, q_new G i st m = some (st1, y) ∧ g_s b v sa1 st1 ∧ g_C b v x y := by
  have hlen := g_2_len hM
  unfold a_cel at h
  split at h
  · split at h
    rotate_left
    · cases h
    rename_i N hc
    split at h
    rotate_left
    · cases h
    rename_i l hl
    cases h
    exact ⟨.ref m.length :: st, _, by simp only [q_new, hc], ⟨by rw [hlen]; rfl, hs⟩, _, rfl, g_dfs hl⟩
  · split at h
    rotate_left
    · cases h
    split at h
    rotate_left
    · cases h
    rename_i a w0 r hc
    obtain ⟨c1, c2, c3, c4⟩ := hc
    cases h
    obtain ⟨y, ys, rfl, hy, hs1⟩ := g_ca hs
    replace hs := hs1
    obtain ⟨w, rfl, hy⟩ := hy
    have hi := g_iv hB (x := (false, _)) hy (g_o32 w)
    have n1 : ¬ w < 0 := by rw [Int32.lt_iff_toInt_lt, Int32.toInt_zero]; omega
    have e1 : w.toNatClampNeg = w.toInt.toNat := rfl
    have e2 : w.toNatClampNeg = (a_iv B (false, w0)).1.toNat := by omega
    refine ⟨.ref m.length :: ys, _, by simp only [q_new]; rw [if_pos ⟨n1, by omega, c4⟩], ⟨by rw [hlen]; rfl, hs⟩, ?_⟩
    rw [e2]
    split
    · exact ⟨_, rfl⟩
    · split
      · refine ⟨_, rfl, by simp, fun j x hx => ?_⟩
        have := List.mem_of_getElem? hx
        rw [List.mem_replicate] at this
        rw [this.2]
        exact ⟨rfl, rfl⟩
      · exact ⟨_, rfl, fun j _ => ⟨by show (0 : Int) ≤ (0 : Int32).toInt; decide, by show (0 : Int32).toInt ≤ 0; decide⟩⟩
  · split at h
    rotate_left
    · cases h
    split at h
    rotate_left
    · cases h
    rename_i t w0 r hc
    obtain ⟨c1, c2, c3⟩ := hc
    cases h
    obtain ⟨y, ys, rfl, hy, hs1⟩ := g_ca hs
    replace hs := hs1
    obtain ⟨w, rfl, hy⟩ := hy
    have hi := g_iv hB (x := (false, _)) hy (g_o32 w)
    have n1 : ¬ w < 0 := by rw [Int32.lt_iff_toInt_lt, Int32.toInt_zero]; omega
    have e1 : w.toNatClampNeg = w.toInt.toNat := rfl
    have e2 : w.toNatClampNeg = (a_iv B (false, w0)).1.toNat := by omega
    refine ⟨.ref m.length :: ys, _, by simp only [q_new]; rw [if_pos ⟨n1, by omega⟩], ⟨by rw [hlen]; rfl, hs⟩, ?_⟩
    rw [e2]
    refine ⟨_, rfl, by simp, fun j r hr => ?_⟩
    have := List.mem_of_getElem? hr
    rw [List.mem_replicate] at this
    exact this.2.symm
  · cases h
theorem g_lk {b : Nat} {v : List Int} {i : Instr} {sa sa1 : List a_V} {st : List Value} (h : a_lk i sa = some sa1) (hs : g_s b v sa st) : ∃ st1, q_lk i st = some st1 ∧ g_s b v sa1 st1 := by
  unfold a_lk at h
  split at h
  · cases h
    exact ⟨_, rfl, ⟨_, rfl, rfl⟩, hs⟩
  · cases h
    exact ⟨_, rfl, ⟨_, rfl, rfl⟩, hs⟩
  · cases h
theorem g_rcv {G : q_G} {M : q_MI} {b : Nat} {v : List Int} {as : List a_V} {ma : List a_C} {vs : List Value} {m : q_M} (h : a_rcv G M as ma = true) (hs : g_s b v as vs) (hM : g_M b v ma m) : q_rcv G M vs m = true := by
  unfold a_rcv at h
  unfold q_rcv
  split at h
  · rename_i hkk
    simp only [hkk]
  · rename_i hkk
    simp only [hkk]
    split at h
    rotate_left
    · cases h
    split at h
    rotate_left
    · cases h
    rename_i a r _ ci fs hm
    obtain ⟨y, ys, rfl, hy, hs1⟩ := g_ca hs
    replace hs := hs1
    have hy : y = .ref a := hy
    subst hy
    obtain ⟨c, hc1, hc2⟩ := g_2_get hM hm
    obtain ⟨f, rfl, -⟩ := hc2
    simp only [hc1]
    exact h
  · rename_i hk1 hk0
    split at h
    rotate_left
    · cases h
    rename_i a r
    obtain ⟨y, ys, rfl, hy, hs1⟩ := g_ca hs
    replace hs := hs1
    have hy : y = .ref _ := hy
    subst hy
    split
    · rfl
    · exact absurd (by assumption) hk0
    · rfl
theorem g_call {G : q_G} {M M1 : q_MI} {k : Nat} {b : Nat} {v : List Int} {sa as rest : List a_V} {ma : List a_C} {st : List Value} {m : q_M} (h : a_call G M k sa ma = some (M1, as, rest)) (hs : g_s b v sa st) (hM : g_M b v ma m) : ∃ vs rs, q_call G M k st m = some (M1, vs, rs) ∧ g_s b v as vs ∧ g_s b v rest rs ∧ (q_gM G)[k]? = some M1 := by
  unfold a_call at h
  split at h
  · cases h
  rename_i M2 hM2
  split at h
  rotate_left
  · cases h
  rename_i hc
  cases h
  obtain ⟨c1, c2, c3, c4, c5, c6⟩ := hc
  have ht := g_2_take (q_na M1) hs
  have hd := g_2_drop (q_na M1) hs
  refine ⟨_, _, ?_, g_2_rev ht, hd, hM2⟩
  unfold q_call
  rw [hM2]
  simp only
  rw [if_pos ⟨by rw [← g_2_len hs]; exact c1, by rw [← g_ac hd]; exact c2, c3, c4, by rw [← g_ac ht]; exact c5, g_rcv c6 (g_2_rev ht) hM⟩]
theorem g_lvs {b : Nat} {v : List Int} : ∀ {as : List a_V} {vs : List Value} (i : Nat), g_s b v as vs → g_L b v (a_lvs i as) (lv_args i vs)
  | [], [], _, _ => trivial
  | x :: as, y :: vs, i, h => by
    refine ⟨⟨rfl, h.1⟩, ?_⟩
    rw [g_cat h.1]
    exact g_lvs _ h.2
  | [], _ :: _, _, h => h.elim
  | _ :: _, [], _, h => h.elim
theorem g_ret {b : Nat} {v : List Int} {B : a_B} {M : q_MI} {i : Instr} {sa ra : List a_V} {st : List Value} (h : a_ret B M i sa = some ra) (hB : g_B v B) (hs : g_s b v sa st) : ∃ r, q_retn M i st = some r ∧ g_s b v ra r.toList := by
  unfold a_ret at h
  split at h
  · split at h
    rotate_left
    · cases h
    obtain ⟨y, ys, rfl, hy, hs1⟩ := g_ca hs
    replace hs := hs1
    have := g_na hs
    subst this
    have hy0 := hy
    obtain ⟨w, rfl, hy⟩ := hy
    split at h
    · rename_i hr
      cases h
      exact ⟨some (.int w), by simp only [q_retn, hr]; exact if_pos (show narrow .int (.int w) = .int w from rfl), hy0, trivial⟩
    · rename_i hr
      split at h
      rotate_left
      · cases h
      rename_i hc
      cases h
      have hi := g_iv hB (x := (false, _)) hy (g_o32 w)
      have hw : w = 0 ∨ w = 1 := by
        have : w.toInt = 0 ∨ w.toInt = 1 := by omega
        rcases this with h0 | h0
        · exact Or.inl (Int32.toInt_inj.mp (h0.trans (by decide)))
        · exact Or.inr (Int32.toInt_inj.mp (h0.trans (by decide)))
      refine ⟨some (.int w), ?_, hy0, trivial⟩
      simp only [q_retn, hr]
      rw [if_pos (by rcases hw with rfl | rfl <;> rfl)]
    · cases h
  · split at h
    rotate_left
    · cases h
    split at h
    rotate_left
    · cases h
    rename_i hr
    cases h
    obtain ⟨y, ys, rfl, hy, hs1⟩ := g_ca hs
    replace hs := hs1
    have := g_na hs
    subst this
    have hy0 := hy
    obtain ⟨w, rfl, hy⟩ := hy
    exact ⟨some (.long w), by simp only [q_retn]; rw [if_pos hr], hy0, trivial⟩
  · split at h
    rotate_left
    · cases h
    split at h
    rotate_left
    · cases h
    rename_i hr
    cases h
    have := g_na hs
    subst this
    exact ⟨none, by simp only [q_retn]; rw [if_pos hr], trivial⟩
  · cases h

theorem g_ain {v : List Int} {B : a_B} (hB : g_B v B) {x : Option Nat × Int} {j : Int32} {n : Nat} (hx : g_lin v x.1 x.2 j.toInt) (h : a_in B (false, x) n = true) : ((a_iv B (false, x)).1 ≤ j.toInt ∧ j.toInt ≤ (a_iv B (false, x)).2) ∧ 0 ≤ (a_iv B (false, x)).1 ∧ (a_iv B (false, x)).2 < n := by
  have hj := g_iv hB (x := (false, x)) hx (g_o32 j)
  simp only [a_in, decide_eq_true_eq] at h
  exact ⟨hj, h.1, h.2⟩
theorem g_mem {G : q_G} {b : Nat} {v : List Int} {k : Nat} {B : a_B} {fr lo : Nat} {i : Instr} {sa : List a_V} {ma : List a_C} {ps : List a_Q} {st : List Value} {m : q_M} (h : a_mem G k B fr lo i sa ma = some ps) (hk : v.length = k) (hB : g_B v B) (hs : g_s b v sa st) (hM : g_M b v ma m) : g_QR b v ps (q_mem G fr lo i st m) := by
  unfold a_mem at h
  split at h
  · -- getfield
    split at h
    rotate_left
    · cases h
    split at h
    rotate_left
    · cases h
    rename_i a r _ ci fs hm
    split at h
    rotate_left
    · cases h
    rename_i hci
    split at h
    rotate_left
    · cases h
    rename_i x hx
    cases h
    obtain ⟨y, ys, rfl, hy, hs1⟩ := g_ca hs
    replace hs := hs1
    have hy : y = .ref a := hy
    subst hy
    obtain ⟨c, hc1, hc2⟩ := g_2_get hM hm
    obtain ⟨fs2, rfl, hf⟩ := hc2
    obtain ⟨z, hz1, hz2⟩ := g_2_get hf hx
    exact g_Q0 (st := z :: ys) (List.mem_singleton.mpr rfl) (by simp only [q_mem, hc1, if_pos hci, hz1]) hk hB ⟨hz2, hs⟩ hM
  · -- putfield
    split at h
    rotate_left
    · cases h
    split at h
    rotate_left
    · cases h
    rename_i x a r _ ci fs hm
    split at h
    rotate_left
    · cases h
    rename_i hc
    obtain ⟨hci, hlen, hfit⟩ := hc
    cases h
    obtain ⟨w, ws, rfl, hw, hs1⟩ := g_ca hs
    replace hs := hs1
    obtain ⟨y, ys, rfl, hy, hs1⟩ := g_ca hs
    replace hs := hs1
    have hy : y = .ref a := hy
    subst hy
    obtain ⟨c, hc1, hc2⟩ := g_2_get hM hm
    obtain ⟨fs2, rfl, hf⟩ := hc2
    obtain ⟨n1, n2⟩ := g_fit hfit hw
    exact g_Q0 (List.mem_singleton.mpr rfl) (by simp only [q_mem, hc1]; rw [if_pos ⟨hci, by rw [← g_2_len hf]; exact hlen, n1, n2⟩]) hk hB hs (g_2_set hM ⟨_, rfl, g_2_set hf hw⟩)
  · -- iaload
    split at h
    rotate_left
    · cases h
    split at h
    rotate_left
    · cases h
    rename_i x a r _ t n c hm
    split at h
    rotate_left
    · cases h
    rename_i hc
    obtain ⟨rfl, hin⟩ := hc
    split at h
    rotate_left
    · cases h
    rename_i z hz
    cases h
    obtain ⟨w, ws, rfl, hw, hs1⟩ := g_ca hs
    replace hs := hs1
    obtain ⟨y, ys, rfl, hy, hs1⟩ := g_ca hs
    replace hs := hs1
    have hy : y = .ref a := hy
    subst hy
    obtain ⟨j, rfl, hj⟩ := hw
    obtain ⟨h1, h2, h3⟩ := g_ain hB hj hin
    dsimp only at h1 h2 h3
    obtain ⟨cc, hc1, hc2⟩ := g_2_get hM hm
    obtain ⟨f, rfl, hR⟩ := g_rd hk hB hc2 h1 h2 h3 hz
    have hq := (g_ix (j := j) (n := n) (by omega) (by omega)).1
    exact g_Q1 (lg := false) hR ⟨_, rfl, rfl⟩ (by simp only [q_mem, hc1]; rw [if_pos ⟨trivial, hq⟩]) hs hM
  · -- baload
    split at h
    rotate_left
    · cases h
    split at h
    rotate_left
    · cases h
    rename_i x a r _ t n c hm
    split at h
    rotate_left
    · cases h
    rename_i hc
    obtain ⟨ht, hin⟩ := hc
    split at h
    rotate_left
    · cases h
    rename_i z hz
    cases h
    obtain ⟨w, ws, rfl, hw, hs1⟩ := g_ca hs
    replace hs := hs1
    obtain ⟨y, ys, rfl, hy, hs1⟩ := g_ca hs
    replace hs := hs1
    have hy : y = .ref a := hy
    subst hy
    obtain ⟨j, rfl, hj⟩ := hw
    obtain ⟨h1, h2, h3⟩ := g_ain hB hj hin
    dsimp only at h1 h2 h3
    obtain ⟨cc, hc1, hc2⟩ := g_2_get hM hm
    obtain ⟨f, rfl, hR⟩ := g_rd hk hB hc2 h1 h2 h3 hz
    have hq := (g_ix (j := j) (n := n) (by omega) (by omega)).1
    exact g_Q1 (lg := false) hR ⟨_, rfl, rfl⟩ (by simp only [q_mem, hc1]; rw [if_pos ⟨ht, hq⟩]) hs hM
  · -- laload
    split at h
    rotate_left
    · cases h
    split at h
    rotate_left
    · cases h
    rename_i x a r _ t n _ hm
    split at h
    rotate_left
    · cases h
    rename_i hc
    obtain ⟨rfl, hin⟩ := hc
    cases h
    obtain ⟨w, ws, rfl, hw, hs1⟩ := g_ca hs
    replace hs := hs1
    obtain ⟨y, ys, rfl, hy, hs1⟩ := g_ca hs
    replace hs := hs1
    have hy : y = .ref a := hy
    subst hy
    obtain ⟨j, rfl, hj⟩ := hw
    obtain ⟨h1, h2, h3⟩ := g_ain hB hj hin
    dsimp only at h1 h2 h3
    obtain ⟨cc, hc1, hc2⟩ := g_2_get hM hm
    obtain ⟨f, rfl⟩ := hc2
    have hq := (g_ix (j := j) (n := n) (by omega) (by omega)).1
    exact g_Q1 (lg := true) (g_top hk hB (g_in64 (f j.toNatClampNeg))) ⟨_, rfl, rfl⟩ (by simp only [q_mem, hc1]; rw [if_pos ⟨trivial, hq⟩]) hs hM
  · -- aaload
    split at h
    rotate_left
    · cases h
    split at h
    rotate_left
    · cases h
    rename_i x a r _ t n rs hm
    split at h
    rotate_left
    · cases h
    rename_i hc
    obtain ⟨ht, ht2, hin, hrl⟩ := hc
    cases h
    obtain ⟨w, ws, rfl, hw, hs1⟩ := g_ca hs
    replace hs := hs1
    obtain ⟨y, ys, rfl, hy, hs1⟩ := g_ca hs
    replace hs := hs1
    have hy : y = .ref a := hy
    subst hy
    obtain ⟨j, rfl, hj⟩ := hw
    obtain ⟨h1, h2, h3⟩ := g_ain hB hj hin
    dsimp only at h1 h2 h3
    obtain ⟨cc, hc1, hc2⟩ := g_2_get hM hm
    obtain ⟨f, rfl, hfl, hf⟩ := hc2
    obtain ⟨hq, he, hlt, -⟩ := g_ix (j := j) (n := n) (by omega) (by omega)
    have hget := List.getElem?_eq_getElem (l := rs) (i := j.toNatClampNeg) (by omega)
    have hfj := hf _ _ hget
    have K := g_refs (b := b) hk hB (x := (false, x)) rfl hj hs hM rs 0 j.toNatClampNeg _ hget (by omega)
    simp only [q_mem, hc1]
    rw [if_pos ⟨ht, hq, ht2⟩, hfj]
    exact K
  · -- iastore
    split at h
    rotate_left
    · cases h
    split at h
    rotate_left
    · cases h
    rename_i x0 x a r _ t n c hm
    split at h
    rotate_left
    · cases h
    rename_i hc
    obtain ⟨rfl, hin⟩ := hc
    split at h
    rotate_left
    · cases h
    rename_i c1 hc1'
    cases h
    obtain ⟨u, us, rfl, hu, hs1⟩ := g_ca hs
    replace hs := hs1
    obtain ⟨w, ws, rfl, hw, hs1⟩ := g_ca hs
    replace hs := hs1
    obtain ⟨y, ys, rfl, hy, hs1⟩ := g_ca hs
    replace hs := hs1
    have hy : y = .ref a := hy
    subst hy
    obtain ⟨j, rfl, hj⟩ := hw
    obtain ⟨e0, rfl, he0⟩ := hu
    obtain ⟨h1, h2, h3⟩ := g_ain hB hj hin
    dsimp only at h1 h2 h3
    obtain ⟨cc, hc1, hc2⟩ := g_2_get hM hm
    obtain ⟨f, rfl, hC⟩ := g_put hB hc2 h1 h2 h3 (x := (false, x0)) rfl he0 hc1'
    have hq := (g_ix (j := j) (n := n) (by omega) (by omega)).1
    exact g_Q0 (List.mem_singleton.mpr rfl) (by simp only [q_mem, hc1]; rw [if_pos ⟨trivial, hq⟩]) hk hB hs (g_2_set hM hC)
  · -- bastore
    split at h
    rotate_left
    · cases h
    split at h
    rotate_left
    · cases h
    rename_i x0 x a r _ t n q0 hm
    split at h
    rotate_left
    · cases h
    rename_i hin
    obtain ⟨u, us, rfl, hu, hs1⟩ := g_ca hs
    replace hs := hs1
    obtain ⟨w, ws, rfl, hw, hs1⟩ := g_ca hs
    replace hs := hs1
    obtain ⟨y, ys, rfl, hy, hs1⟩ := g_ca hs
    replace hs := hs1
    have hy : y = .ref a := hy
    subst hy
    obtain ⟨j, rfl, hj⟩ := hw
    obtain ⟨e0, rfl, he0⟩ := hu
    obtain ⟨h1, h2, h3⟩ := g_ain hB hj hin
    dsimp only at h1 h2 h3
    obtain ⟨cc, hc1, hc2⟩ := g_2_get hM hm
    obtain ⟨f, rfl, hf⟩ := hc2
    have hq := (g_ix (j := j) (n := n) (by omega) (by omega)).1
    split at h
    · rename_i ht
      subst ht
      cases h
      exact g_Q0 (m := m.set a (.inl (2, n, .inl (upd f j.toNatClampNeg (vp_nar .byte e0))))) (List.mem_singleton.mpr rfl) (by simp only [q_mem, hc1]; rw [if_pos ⟨trivial, hq⟩]) hk hB hs (g_2_set hM ⟨_, rfl, g_upd_u hf (g_b8 e0)⟩)
    · split at h
      rotate_left
      · cases h
      rename_i ht
      subst ht
      cases h
      exact g_Q0 (m := m.set a (.inl (3, n, .inl (upd f j.toNatClampNeg (vp_nar .boolean e0))))) (List.mem_singleton.mpr rfl) (by simp only [q_mem, hc1]; rw [if_neg (fun z => absurd z.1 (by decide)), if_pos ⟨trivial, hq⟩]) hk hB hs (g_2_set hM ⟨_, rfl, g_upd_u hf (g_bool e0)⟩)
  · -- lastore
    split at h
    rotate_left
    · cases h
    split at h
    rotate_left
    · cases h
    rename_i x0 x a r _ t n u0 hm
    split at h
    rotate_left
    · cases h
    rename_i hc
    obtain ⟨rfl, hin⟩ := hc
    cases h
    obtain ⟨u, us, rfl, hu, hs1⟩ := g_ca hs
    replace hs := hs1
    obtain ⟨w, ws, rfl, hw, hs1⟩ := g_ca hs
    replace hs := hs1
    obtain ⟨y, ys, rfl, hy, hs1⟩ := g_ca hs
    replace hs := hs1
    have hy : y = .ref a := hy
    subst hy
    obtain ⟨j, rfl, hj⟩ := hw
    obtain ⟨e0, rfl, he0⟩ := hu
    obtain ⟨h1, h2, h3⟩ := g_ain hB hj hin
    dsimp only at h1 h2 h3
    obtain ⟨cc, hc1, hc2⟩ := g_2_get hM hm
    obtain ⟨f, rfl⟩ := hc2
    have hq := (g_ix (j := j) (n := n) (by omega) (by omega)).1
    have hM2 := g_2_set (i := a) hM (a := .inl (1, n, .inr (.inr (.inl u0)))) (b := .inl (1, n, .inr (.inl (vp_updL f j.toNatClampNeg e0)))) ⟨_, rfl⟩
    have e9 : ma.set a (.inl (1, n, .inr (.inr (.inl u0)))) = ma := by
      apply List.ext_getElem?
      intro z
      rw [List.getElem?_set]
      split
      · rename_i hz
        subst hz
        split
        · exact hm.symm
        · rename_i hl
          exact absurd (List.getElem?_eq_some_iff.mp hm).1 hl
      · rfl
    rw [e9] at hM2
    exact g_Q0 (List.mem_singleton.mpr rfl) (by simp only [q_mem, hc1]; rw [if_pos ⟨trivial, hq⟩]) hk hB hs hM2
  · -- aastore
    split at h
    rotate_left
    · cases h
    split at h
    rotate_left
    · cases h
    rename_i x0 x a r _ _ t n rs ci _ hm hmv
    split at h
    rotate_left
    · cases h
    rename_i hc
    obtain ⟨ht, hin, hsing, hty, hty2⟩ := hc
    cases h
    obtain ⟨u, us, rfl, hu, hs1⟩ := g_ca hs
    replace hs := hs1
    obtain ⟨w, ws, rfl, hw, hs1⟩ := g_ca hs
    replace hs := hs1
    obtain ⟨y, ys, rfl, hy, hs1⟩ := g_ca hs
    replace hs := hs1
    have hy : y = .ref a := hy
    subst hy
    have hu : u = .ref x0 := hu
    subst hu
    obtain ⟨j, rfl, hj⟩ := hw
    obtain ⟨h1, h2, h3⟩ := g_ain hB hj hin
    dsimp only at h1 h2 h3
    obtain ⟨cc, hc1, hc2⟩ := g_2_get hM hm
    obtain ⟨f, rfl, hfl, hf⟩ := hc2
    obtain ⟨cc2, hc3, hc4⟩ := g_2_get hM hmv
    obtain ⟨fs2, rfl, -⟩ := hc4
    obtain ⟨hq, he, hlt, -⟩ := g_ix (j := j) (n := n) (by omega) (by omega)
    refine g_Q0 (List.mem_singleton.mpr rfl) (by simp only [q_mem, hc1, hc3]; rw [if_pos ⟨ht, hq, hty, hty2⟩]) hk hB hs (g_2_set hM ⟨_, rfl, by rw [List.length_set]; exact hfl, fun i y hy => ?_⟩)
    have e2 : (a_iv B (false, x)).1.toNat = j.toNatClampNeg := by omega
    rw [e2] at hy
    unfold va_up
    by_cases hi : i = j.toNatClampNeg
    · subst hi
      rw [List.getElem?_set_self (by omega)] at hy
      cases hy
      rw [if_pos rfl]
    · rw [List.getElem?_set_ne (fun q => hi q.symm)] at hy
      rw [if_neg hi]
      exact hf i y hy
  · -- arraylength
    split at h
    rotate_left
    · cases h
    split at h
    rotate_left
    · cases h
    rename_i a r _ t n c hm
    split at h
    rotate_left
    · cases h
    rename_i hc
    cases h
    obtain ⟨y, ys, rfl, hy, hs1⟩ := g_ca hs
    replace hs := hs1
    have hy : y = .ref a := hy
    subst hy
    obtain ⟨cc, hc1, hc2⟩ := g_2_get hM hm
    have hcell : ∃ z, cc = .inl (t, n, z) := by
      match c, hc2 with
      | .inl q, hc2 => obtain ⟨f, rfl, -⟩ := hc2; exact ⟨_, rfl⟩
      | .inr (.inl vs), hc2 => obtain ⟨f, rfl, -⟩ := hc2; exact ⟨_, rfl⟩
      | .inr (.inr (.inl _)), hc2 => obtain ⟨f, rfl⟩ := hc2; exact ⟨_, rfl⟩
      | .inr (.inr (.inr rs)), hc2 => obtain ⟨f, rfl, -⟩ := hc2; exact ⟨_, rfl⟩
    obtain ⟨z, rfl⟩ := hcell
    exact g_Q0 (st := .int (Int32.ofNat n) :: ys) (List.mem_singleton.mpr rfl) (by simp only [q_mem, hc1]; rw [if_pos hc.1]) hk hB ⟨⟨_, rfl, g_len hc.2⟩, hs⟩ hM
  · -- Object's own start, a row copied
    split at h
    · rename_i hn
      split at h
      rotate_left
      · cases h
      split at h
      rotate_left
      · cases h
      rename_i hc
      cases h
      obtain ⟨y, ys, rfl, hy, hs1⟩ := g_ca hs
      replace hs := hs1
      have hy : y = .ref _ := hy
      subst hy
      exact g_Q0 (List.mem_singleton.mpr rfl) (by simp only [q_mem]; rw [if_pos hn, if_pos ⟨hc.1, by rw [← g_ac hs]; exact hc.2⟩]) hk hB hs hM
    · rename_i hn0
      split at h
      rotate_left
      · cases h
      rename_i hn
      split at h
      rotate_left
      · cases h
      rename_i wv dv d sv j r
      split at h
      rotate_left
      · cases h
      rename_i hc
      obtain ⟨y1, s1, rfl, hy1, hs1⟩ := g_ca hs
      replace hs := hs1
      obtain ⟨y2, s2, rfl, hy2, hs1⟩ := g_ca hs
      replace hs := hs1
      obtain ⟨y3, s3, rfl, hy3, hs1⟩ := g_ca hs
      replace hs := hs1
      obtain ⟨y4, s4, rfl, hy4, hs1⟩ := g_ca hs
      replace hs := hs1
      obtain ⟨y5, s5, rfl, hy5, hs1⟩ := g_ca hs
      replace hs := hs1
      have hy3 : y3 = .ref _ := hy3
      subst hy3
      have hy5 : y5 = .ref _ := hy5
      subst hy5
      obtain ⟨w, rfl, hy1⟩ := hy1
      obtain ⟨dp, rfl, hy2⟩ := hy2
      obtain ⟨sp, rfl, hy4⟩ := hy4
      have i1 := g_iv hB (x := (false, _)) hy1 (g_o32 w)
      have i2 := g_iv hB (x := (false, _)) hy2 (g_o32 dp)
      have i4 := g_iv hB (x := (false, _)) hy4 (g_o32 sp)
      unfold a_cpy at h
      split at h
      · rename_i t0 n0 q0 t1 n1 p0 hm0 hm1
        split at h
        rotate_left
        · cases h
        rename_i hd
        obtain ⟨rfl, rfl, d1, d2, d3, d4, d5⟩ := hd
        cases h
        obtain ⟨c0, hc0, hg0⟩ := g_2_get hM hm0
        obtain ⟨c1, hc1, hg1⟩ := g_2_get hM hm1
        obtain ⟨f, rfl, hf⟩ := hg0
        obtain ⟨g, rfl, hg⟩ := hg1
        have n1' : ¬ w < 0 := by rw [Int32.lt_iff_toInt_lt, Int32.toInt_zero]; omega
        have n2' : ¬ dp < 0 := by rw [Int32.lt_iff_toInt_lt, Int32.toInt_zero]; omega
        have n4' : ¬ sp < 0 := by rw [Int32.lt_iff_toInt_lt, Int32.toInt_zero]; omega
        have e1 : w.toNatClampNeg = w.toInt.toNat := rfl
        have e2 : dp.toNatClampNeg = dp.toInt.toNat := rfl
        have e4 : sp.toNatClampNeg = sp.toInt.toNat := rfl
        exact g_Q0 (List.mem_singleton.mpr rfl) (by
          simp only [q_mem]
          rw [if_neg hn0, if_pos hn]
          simp only [q_copy]
          rw [if_pos ⟨hc.1, by rw [← g_ac hs]; exact hc.2, n4', n2', n1'⟩]
          simp only [q_cpy, hc0, hc1]
          rw [if_pos ⟨trivial, trivial, by omega, by omega⟩]) hk hB hs (g_2_set hM ⟨_, rfl, g_cpyu hf hg (by omega)⟩)
      · rename_i t0 n0 u0 t1 n1 u1 hm0 hm1
        split at h
        rotate_left
        · cases h
        rename_i hd
        obtain ⟨rfl, rfl, d1, d2, d3, d4, d5⟩ := hd
        cases h
        obtain ⟨c0, hc0, hg0⟩ := g_2_get hM hm0
        obtain ⟨c1, hc1, hg1⟩ := g_2_get hM hm1
        obtain ⟨f, rfl⟩ := hg0
        obtain ⟨g, rfl⟩ := hg1
        have n1' : ¬ w < 0 := by rw [Int32.lt_iff_toInt_lt, Int32.toInt_zero]; omega
        have n2' : ¬ dp < 0 := by rw [Int32.lt_iff_toInt_lt, Int32.toInt_zero]; omega
        have n4' : ¬ sp < 0 := by rw [Int32.lt_iff_toInt_lt, Int32.toInt_zero]; omega
        have e1 : w.toNatClampNeg = w.toInt.toNat := rfl
        have e2 : dp.toNatClampNeg = dp.toInt.toNat := rfl
        have e4 : sp.toNatClampNeg = sp.toInt.toNat := rfl
        exact g_Q0 (List.mem_singleton.mpr rfl) (by
          simp only [q_mem]
          rw [if_neg hn0, if_pos hn]
          simp only [q_copy]
          rw [if_pos ⟨hc.1, by rw [← g_ac hs]; exact hc.2, n4', n2', n1'⟩]
          simp only [q_cpy, hc0, hc1]
          rw [if_pos ⟨trivial, trivial, by omega, by omega⟩]) hk hB hs (g_2_set hM ⟨_, rfl⟩)
      · cases h
  · cases h

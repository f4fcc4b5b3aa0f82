theorem g_lkp {b : Nat} {v : List Int} {k : Nat} {pc : Nat} {x : a_N} {z : Int32} {la : a_L} {sa : List a_V} {l : q_L} {st : List Value} {d : Int} (hk : v.length = k) (hx1 : x.1 = false) (hx : g_lin v x.2.1 x.2.2 z.toInt) (hl : g_L b v la l) (hs : g_s b v sa st) :
    ∀ (ps : List (Int × Int)) (o : Option a_B) (B : a_B) (rs : List a_P), o = some B → g_B v B → a_lkp k pc x la sa d o ps = some rs → g_PR b v rs (q_to pc (Op.lookupswitch.offset ps d z.toInt) l st)
  | [], o, B, rs, ho, hB, h => by
    subst ho
    unfold a_lkp at h
    exact g_to rfl h hk hB hl hs
  | p :: ps, o, B, rs, ho, hB, h => by
    subst ho
    unfold a_lkp at h
    obtain ⟨p1, p2, e1, e2, rfl⟩ := g_cat2 h
    obtain ⟨a, off⟩ := p
    rw [Op.lookupswitch.offset_cons]
    by_cases hz : z.toInt = a
    · rw [if_pos (by first | exact hz | exact hz.symm | simpa using hz | simpa using hz.symm)]
      obtain ⟨B1, h1, h2⟩ := g_asm (c := .eq) (y := (false, none, a)) hB hx (w := a) rfl (by rw [hx1]; exact g_o32 z) (Or.inl rfl) hz
      exact g_PRl (g_to h1 e1 hk h2 hl hs)
    · rw [if_neg (by first | exact hz | exact fun q => hz q.symm | simpa using hz | simpa using fun q => hz q.symm)]
      obtain ⟨B1, h1, h2⟩ := g_asm (c := .ne) (y := (false, none, a)) hB hx (w := a) rfl (by rw [hx1]; exact g_o32 z) (Or.inl rfl) hz
      exact g_PRr (g_lkp hk hx1 hx hl hs ps _ B1 p2 h1 h2 e2)
theorem g_s8 {x : Int32} (h1 : -128 ≤ x.toInt) (h2 : x.toInt ≤ 127) : x.toInt8.toInt32 = x := by
  rw [← Int32.toInt_inj, Int8.toInt_toInt32, Int32.toInt_toInt8]
  exact Int.bmod_eq_of_le (by omega) (by omega)
theorem g_s16 {x : Int32} (h1 : -32768 ≤ x.toInt) (h2 : x.toInt ≤ 32767) : x.toInt16.toInt32 = x := by
  rw [← Int32.toInt_inj, Int16.toInt_toInt32, Int32.toInt_toInt16]
  exact Int.bmod_eq_of_le (by omega) (by omega)
theorem g_b8 (x : Int32) : -128 ≤ x.toInt8.toInt32.toInt ∧ x.toInt8.toInt32.toInt ≤ 127 := by
  rw [Int8.toInt_toInt32]
  have h1 := Int8.le_toInt x.toInt8
  have h2 := Int8.toInt_lt x.toInt8
  omega
theorem g_b16 (x : Int32) : -32768 ≤ x.toInt16.toInt32.toInt ∧ x.toInt16.toInt32.toInt ≤ 32767 := by
  rw [Int16.toInt_toInt32]
  have h1 := Int16.le_toInt x.toInt16
  have h2 := Int16.toInt_lt x.toInt16
  omega
theorem g_l2i {x : Int64} (h1 : -2147483648 ≤ x.toInt) (h2 : x.toInt ≤ 2147483647) : x.toInt32.toInt = x.toInt := by
  rw [Int64.toInt_toInt32]
  exact Int.bmod_eq_of_le (by omega) (by omega)
theorem g_pure {b : Nat} {v : List Int} {k : Nat} {B : a_B} {nL pc len : Nat} {i : Instr} {la : a_L} {sa : List a_V} {ps : List a_P} {l : q_L} {st : List Value} (h : a_pure k B nL pc len i la sa = some ps) (hk : v.length = k) (hB : g_B v B) (hl : g_L b v la l) (hs : g_s b v sa st) : g_PR b v ps (q_pure nL pc len i l st) := by
  unfold a_pure at h
  split at h
  · -- iconst
    cases h
    exact g_P0 (List.mem_singleton.mpr rfl) rfl hk hB hl ⟨⟨_, rfl, rfl⟩, hs⟩
  · -- a long
    cases h
    exact g_P0 (List.mem_singleton.mpr rfl) rfl hk hB hl ⟨⟨_, rfl, rfl⟩, hs⟩
  · -- iload
    split at h
    rotate_left
    · cases h
    rename_i hg
    cases h
    obtain ⟨y, h1, h2⟩ := g_get hl hg
    obtain ⟨z, rfl, h3⟩ := h2
    exact g_P0 (st := .int z :: st) (List.mem_singleton.mpr rfl) (by simp only [q_pure, h1]) hk hB hl ⟨⟨z, rfl, h3⟩, hs⟩
  · -- lload
    split at h
    rotate_left
    · cases h
    rename_i hg
    cases h
    obtain ⟨y, h1, h2⟩ := g_get hl hg
    obtain ⟨z, rfl, h3⟩ := h2
    exact g_P0 (st := .long z :: st) (List.mem_singleton.mpr rfl) (by simp only [q_pure, h1]) hk hB hl ⟨⟨z, rfl, h3⟩, hs⟩
  · -- aload
    split at h
    · rename_i hg
      cases h
      obtain ⟨y, h1, h2⟩ := g_get hl hg
      have h2 : y = _ := h2
      subst h2
      exact g_P0 (st := .ref _ :: st) (List.mem_singleton.mpr rfl) (by simp only [q_pure, h1]) hk hB hl ⟨rfl, hs⟩
    · rename_i hg
      cases h
      obtain ⟨y, h1, h2⟩ := g_get hl hg
      have h2 : y = _ := h2
      subst h2
      exact g_P0 (st := .retAddr b :: st) (List.mem_singleton.mpr rfl) (by simp only [q_pure, h1]) hk hB hl ⟨rfl, hs⟩
    · cases h
  · -- istore
    split at h
    rotate_left
    · cases h
    split at h
    rotate_left
    · cases h
    rename_i hn
    cases h
    obtain ⟨y, ys, rfl, hy, hr⟩ := g_ca hs
    have hy0 := hy
    obtain ⟨z, rfl, h3⟩ := hy
    exact g_P0 (l := q_s1 l _ (.int z)) (st := ys) (List.mem_singleton.mpr rfl) (by simp only [q_pure, if_pos hn]) hk hB (g_s1 hl hy0) hr
  · -- astore
    split at h
    rotate_left
    · cases h
    split at h
    rotate_left
    · cases h
    rename_i hn
    cases h
    obtain ⟨y, ys, rfl, hy, hr⟩ := g_ca hs
    have hy0 := hy
    have hy : y = _ := hy
    subst hy
    exact g_P0 (l := q_s1 l _ (.ref _)) (st := ys) (List.mem_singleton.mpr rfl) (by simp only [q_pure, if_pos hn]) hk hB (g_s1 hl hy0) hr
  · -- lstore
    split at h
    rotate_left
    · cases h
    split at h
    rotate_left
    · cases h
    rename_i hn
    cases h
    obtain ⟨y, ys, rfl, hy, hr⟩ := g_ca hs
    have hy0 := hy
    obtain ⟨z, rfl, h3⟩ := hy
    exact g_P0 (l := q_s2 l _ (.long z)) (st := ys) (List.mem_singleton.mpr rfl) (by simp only [q_pure, if_pos hn]) hk hB (g_s2 hl hy0) hr
  · -- iinc
    rename_i jj nn
    split at h
    rotate_left
    · cases h
    rename_i hg
    split at h
    rotate_left
    · cases h
    rename_i hn
    obtain ⟨y, h1, h2⟩ := g_get hl hg
    obtain ⟨z, rfl, h3⟩ := h2
    rename_i o c
    have hR := g_add hk hB (x := (false, _, _)) (y := (false, none, (Int32.ofInt nn).toInt)) rfl rfl h3 (w := Int32.ofInt nn) rfl
    split at h
    rename_i k1 B1 zz hz
    cases h
    rw [hz] at hR
    obtain ⟨t, g1, g2, g3, g4⟩ := hR
    refine ⟨_, List.mem_singleton.mpr rfl, t, q_s1 l jj (.int (z + Int32.ofInt nn)), st, by simp only [q_pure, h1, if_pos hn], g1, g2, g_s1 (g_L_ext hl) ?_, g_s_ext hs⟩
    obtain ⟨lg, oo, cc⟩ := zz
    simp only at g3 g4
    subst g3
    exact ⟨_, rfl, g4⟩
  · -- iadd
    split at h
    rotate_left
    · cases h
    obtain ⟨y, ys, rfl, hy, hs1⟩ := g_ca hs
    replace hs := hs1
    obtain ⟨x, xs, rfl, hx, hs1⟩ := g_ca hs
    replace hs := hs1
    obtain ⟨w, rfl, hy⟩ := hy
    obtain ⟨z, rfl, hx⟩ := hx
    cases h
    exact g_P1 (lg := false) (g_add hk hB rfl rfl hx hy) ⟨_, rfl, rfl⟩ rfl hl hs
  · -- isub
    split at h
    rotate_left
    · cases h
    obtain ⟨y, ys, rfl, hy, hs1⟩ := g_ca hs
    replace hs := hs1
    obtain ⟨x, xs, rfl, hx, hs1⟩ := g_ca hs
    replace hs := hs1
    obtain ⟨w, rfl, hy⟩ := hy
    obtain ⟨z, rfl, hx⟩ := hx
    cases h
    exact g_P1 (lg := false) (g_sub hk hB rfl rfl hx hy) ⟨_, rfl, rfl⟩ rfl hl hs
  · -- imul
    split at h
    rotate_left
    · cases h
    obtain ⟨y, ys, rfl, hy, hs1⟩ := g_ca hs
    replace hs := hs1
    obtain ⟨x, xs, rfl, hx, hs1⟩ := g_ca hs
    replace hs := hs1
    obtain ⟨w, rfl, hy⟩ := hy
    obtain ⟨z, rfl, hx⟩ := hx
    cases h
    exact g_P1 (lg := false) (g_bin32 hk hB rfl rfl hx hy (fun _ _ => g_mulb)) ⟨_, rfl, rfl⟩ rfl hl hs
  · -- iand
    split at h
    rotate_left
    · cases h
    obtain ⟨y, ys, rfl, hy, hs1⟩ := g_ca hs
    replace hs := hs1
    obtain ⟨x, xs, rfl, hx, hs1⟩ := g_ca hs
    replace hs := hs1
    obtain ⟨w, rfl, hy⟩ := hy
    obtain ⟨z, rfl, hx⟩ := hx
    cases h
    exact g_P1 (lg := false) (g_bin32 hk hB rfl rfl hx hy (fun _ _ => g_mskb)) ⟨_, rfl, rfl⟩ rfl hl hs
  · -- ior
    split at h
    rotate_left
    · cases h
    obtain ⟨y, ys, rfl, hy, hs1⟩ := g_ca hs
    replace hs := hs1
    obtain ⟨x, xs, rfl, hx, hs1⟩ := g_ca hs
    replace hs := hs1
    obtain ⟨w, rfl, hy⟩ := hy
    obtain ⟨z, rfl, hx⟩ := hx
    cases h
    exact g_P1 (lg := false) (g_bin32 hk hB rfl rfl hx hy (fun a b _ _ => g_all32 _ a b)) ⟨_, rfl, rfl⟩ rfl hl hs
  · -- ixor
    split at h
    rotate_left
    · cases h
    obtain ⟨y, ys, rfl, hy, hs1⟩ := g_ca hs
    replace hs := hs1
    obtain ⟨x, xs, rfl, hx, hs1⟩ := g_ca hs
    replace hs := hs1
    obtain ⟨w, rfl, hy⟩ := hy
    obtain ⟨z, rfl, hx⟩ := hx
    cases h
    exact g_P1 (lg := false) (g_bin32 hk hB rfl rfl hx hy (fun a b _ _ => g_all32 _ a b)) ⟨_, rfl, rfl⟩ rfl hl hs
  · -- ishl
    split at h
    rotate_left
    · cases h
    obtain ⟨y, ys, rfl, hy, hs1⟩ := g_ca hs
    replace hs := hs1
    obtain ⟨x, xs, rfl, hx, hs1⟩ := g_ca hs
    replace hs := hs1
    obtain ⟨w, rfl, hy⟩ := hy
    obtain ⟨z, rfl, hx⟩ := hx
    cases h
    exact g_P1 (lg := false) (g_bin32 hk hB rfl rfl hx hy (fun a b _ _ => g_all32 _ a b)) ⟨_, rfl, rfl⟩ rfl hl hs
  · -- ishr
    split at h
    rotate_left
    · cases h
    obtain ⟨y, ys, rfl, hy, hs1⟩ := g_ca hs
    replace hs := hs1
    obtain ⟨x, xs, rfl, hx, hs1⟩ := g_ca hs
    replace hs := hs1
    obtain ⟨w, rfl, hy⟩ := hy
    obtain ⟨z, rfl, hx⟩ := hx
    cases h
    exact g_P1 (lg := false) (g_bin32 hk hB rfl rfl hx hy (fun _ _ h1 _ => g_shrb h1)) ⟨_, rfl, rfl⟩ rfl hl hs
  · -- iushr
    split at h
    rotate_left
    · cases h
    obtain ⟨y, ys, rfl, hy, hs1⟩ := g_ca hs
    replace hs := hs1
    obtain ⟨x, xs, rfl, hx, hs1⟩ := g_ca hs
    replace hs := hs1
    obtain ⟨w, rfl, hy⟩ := hy
    obtain ⟨z, rfl, hx⟩ := hx
    cases h
    exact g_P1 (lg := false) (g_bin32 hk hB rfl rfl hx hy (fun a b _ _ => g_all32 _ a b)) ⟨_, rfl, rfl⟩ rfl hl hs
  · -- idiv
    split at h
    rotate_left
    · cases h
    split at h
    rotate_left
    · cases h
    rename_i hnz
    obtain ⟨y, ys, rfl, hy, hs1⟩ := g_ca hs
    replace hs := hs1
    obtain ⟨x, xs, rfl, hx, hs1⟩ := g_ca hs
    replace hs := hs1
    obtain ⟨w, rfl, hy⟩ := hy
    obtain ⟨z, rfl, hx⟩ := hx
    have hw := g_nz hB rfl hy hnz
    cases h
    exact g_P1 (lg := false) (g_bin32 hk hB rfl rfl hx hy (fun a b _ _ => g_all32 _ a b)) ⟨_, rfl, rfl⟩ (by simp only [q_pure, if_neg hw]) hl hs
  · -- irem
    split at h
    rotate_left
    · cases h
    split at h
    rotate_left
    · cases h
    rename_i hnz
    obtain ⟨y, ys, rfl, hy, hs1⟩ := g_ca hs
    replace hs := hs1
    obtain ⟨x, xs, rfl, hx, hs1⟩ := g_ca hs
    replace hs := hs1
    obtain ⟨w, rfl, hy⟩ := hy
    obtain ⟨z, rfl, hx⟩ := hx
    have hw := g_nz hB rfl hy hnz
    cases h
    exact g_P1 (lg := false) (g_bin32 hk hB rfl rfl hx hy (fun a b _ _ => g_all32 _ a b)) ⟨_, rfl, rfl⟩ (by simp only [q_pure, if_neg hw]) hl hs
  · -- ladd
    split at h
    rotate_left
    · cases h
    obtain ⟨y, ys, rfl, hy, hs1⟩ := g_ca hs
    replace hs := hs1
    obtain ⟨x, xs, rfl, hx, hs1⟩ := g_ca hs
    replace hs := hs1
    obtain ⟨w, rfl, hy⟩ := hy
    obtain ⟨z, rfl, hx⟩ := hx
    cases h
    exact g_P1 (lg := true) (g_bin64 hk hB rfl rfl hx hy (fun _ _ => g_sum64)) ⟨_, rfl, rfl⟩ rfl hl hs
  · -- lsub
    split at h
    rotate_left
    · cases h
    obtain ⟨y, ys, rfl, hy, hs1⟩ := g_ca hs
    replace hs := hs1
    obtain ⟨x, xs, rfl, hx, hs1⟩ := g_ca hs
    replace hs := hs1
    obtain ⟨w, rfl, hy⟩ := hy
    obtain ⟨z, rfl, hx⟩ := hx
    cases h
    exact g_P1 (lg := true) (g_bin64 hk hB rfl rfl hx hy (fun _ _ => g_dif64)) ⟨_, rfl, rfl⟩ rfl hl hs
  · -- lmul
    split at h
    rotate_left
    · cases h
    obtain ⟨y, ys, rfl, hy, hs1⟩ := g_ca hs
    replace hs := hs1
    obtain ⟨x, xs, rfl, hx, hs1⟩ := g_ca hs
    replace hs := hs1
    obtain ⟨w, rfl, hy⟩ := hy
    obtain ⟨z, rfl, hx⟩ := hx
    cases h
    exact g_P1 (lg := true) (g_bin64 hk hB rfl rfl hx hy (fun a b _ _ => g_all64 _ a b)) ⟨_, rfl, rfl⟩ rfl hl hs
  · -- land
    split at h
    rotate_left
    · cases h
    obtain ⟨y, ys, rfl, hy, hs1⟩ := g_ca hs
    replace hs := hs1
    obtain ⟨x, xs, rfl, hx, hs1⟩ := g_ca hs
    replace hs := hs1
    obtain ⟨w, rfl, hy⟩ := hy
    obtain ⟨z, rfl, hx⟩ := hx
    cases h
    exact g_P1 (lg := true) (g_top hk hB (g_in64 _)) ⟨_, rfl, rfl⟩ rfl hl hs
  · -- lor
    split at h
    rotate_left
    · cases h
    obtain ⟨y, ys, rfl, hy, hs1⟩ := g_ca hs
    replace hs := hs1
    obtain ⟨x, xs, rfl, hx, hs1⟩ := g_ca hs
    replace hs := hs1
    obtain ⟨w, rfl, hy⟩ := hy
    obtain ⟨z, rfl, hx⟩ := hx
    cases h
    exact g_P1 (lg := true) (g_top hk hB (g_in64 _)) ⟨_, rfl, rfl⟩ rfl hl hs
  · -- lshl
    split at h
    rotate_left
    · cases h
    obtain ⟨y, ys, rfl, hy, hs1⟩ := g_ca hs
    replace hs := hs1
    obtain ⟨x, xs, rfl, hx, hs1⟩ := g_ca hs
    replace hs := hs1
    obtain ⟨w, rfl, hy⟩ := hy
    obtain ⟨z, rfl, hx⟩ := hx
    cases h
    exact g_P1 (lg := true) (g_top hk hB (g_in64 _)) ⟨_, rfl, rfl⟩ rfl hl hs
  · -- lshr
    split at h
    rotate_left
    · cases h
    obtain ⟨y, ys, rfl, hy, hs1⟩ := g_ca hs
    replace hs := hs1
    obtain ⟨x, xs, rfl, hx, hs1⟩ := g_ca hs
    replace hs := hs1
    obtain ⟨w, rfl, hy⟩ := hy
    obtain ⟨z, rfl, hx⟩ := hx
    cases h
    exact g_P1 (lg := true) (g_top hk hB (g_in64 _)) ⟨_, rfl, rfl⟩ rfl hl hs
  · -- i2l
    split at h
    rotate_left
    · cases h
    obtain ⟨y, ys, rfl, hy, hs1⟩ := g_ca hs
    replace hs := hs1
    obtain ⟨w, rfl, hy⟩ := hy
    cases h
    have hi := g_iv hB hy (g_o32 w)
    refine g_P0 (List.mem_singleton.mpr rfl) rfl hk ?_ hl ⟨⟨w.toInt64, rfl, by rw [Int32.toInt_toInt64]; exact hy⟩, hs⟩
    split
    · exact g_rf hB hy hi.1 hi.2
    · exact hB
  · -- l2i
    split at h
    rotate_left
    · cases h
    obtain ⟨y, ys, rfl, hy, hs1⟩ := g_ca hs
    replace hs := hs1
    obtain ⟨w, rfl, hy⟩ := hy
    have hi := g_iv hB hy (g_o64 w)
    split at h
    · rename_i hc
      cases h
      exact g_P0 (List.mem_singleton.mpr rfl) rfl hk hB hl ⟨⟨w.toInt32, rfl, by rw [g_l2i (by omega) (by omega)]; exact hy⟩, hs⟩
    · cases h
      exact g_P1 (lg := false) (g_top hk hB (g_in32 w.toInt32)) ⟨_, rfl, rfl⟩ rfl hl hs
  · -- i2b
    split at h
    rotate_left
    · cases h
    obtain ⟨y, ys, rfl, hy, hs1⟩ := g_ca hs
    replace hs := hs1
    obtain ⟨w, rfl, hy⟩ := hy
    have hi := g_iv hB hy (g_o32 w)
    split at h
    · rename_i hc
      cases h
      exact g_P0 (List.mem_singleton.mpr rfl) rfl hk hB hl ⟨⟨w.toInt8.toInt32, rfl, by rw [g_s8 (by omega) (by omega)]; exact hy⟩, hs⟩
    · cases h
      exact g_P1 (lg := false) (g_new hk hB (g_b8 w).1 (g_b8 w).2) ⟨_, rfl, rfl⟩ rfl hl hs
  · -- i2s
    split at h
    rotate_left
    · cases h
    obtain ⟨y, ys, rfl, hy, hs1⟩ := g_ca hs
    replace hs := hs1
    obtain ⟨w, rfl, hy⟩ := hy
    have hi := g_iv hB hy (g_o32 w)
    split at h
    · rename_i hc
      cases h
      exact g_P0 (List.mem_singleton.mpr rfl) rfl hk hB hl ⟨⟨w.toInt16.toInt32, rfl, by rw [g_s16 (by omega) (by omega)]; exact hy⟩, hs⟩
    · cases h
      exact g_P1 (lg := false) (g_new hk hB (g_b16 w).1 (g_b16 w).2) ⟨_, rfl, rfl⟩ rfl hl hs
  · -- ineg
    split at h
    rotate_left
    · cases h
    obtain ⟨y, ys, rfl, hy, hs1⟩ := g_ca hs
    replace hs := hs1
    obtain ⟨w, rfl, hy⟩ := hy
    cases h
    exact g_P1 (lg := false) (g_bin32 hk hB (x := (false, none, 0)) (z := 0) rfl rfl (by show (0 : Int32).toInt = 0; rfl) hy (fun a b _ _ => g_all32 _ a b)) ⟨_, rfl, rfl⟩ rfl hl hs
  · -- lcmp
    split at h
    rotate_left
    · cases h
    obtain ⟨y, ys, rfl, hy, hs1⟩ := g_ca hs
    replace hs := hs1
    obtain ⟨x, xs, rfl, hx, hs1⟩ := g_ca hs
    replace hs := hs1
    obtain ⟨w, rfl, hy⟩ := hy
    obtain ⟨z, rfl, hx⟩ := hx
    cases h
    by_cases h1 : w < z
    · have e1 : lg_cmp z w = 1 := by simp [lg_cmp, h1]
      obtain ⟨B1, a1, a2⟩ := g_asm (c := .gt) hB hx hy (g_o64 z) (g_o64 w) (Int64.lt_iff_toInt_lt.mp h1)
      exact g_PRr (g_arm a1 rfl hk a2 hl ⟨⟨_, rfl, by rw [e1]; rfl⟩, hs⟩)
    · by_cases h2 : z = w
      · have e1 : lg_cmp z w = 0 := by simp [lg_cmp, h2]
        obtain ⟨B1, a1, a2⟩ := g_asm (c := .eq) hB hx hy (g_o64 z) (g_o64 w) (by show z.toInt = w.toInt; rw [h2])
        exact g_PRl (g_PRr (g_arm a1 rfl hk a2 hl ⟨⟨_, rfl, by rw [e1]; rfl⟩, hs⟩))
      · have e1 : lg_cmp z w = -1 := by simp [lg_cmp, h1, h2]
        obtain ⟨B1, a1, a2⟩ := g_asm (c := .lt) hB hx hy (g_o64 z) (g_o64 w) (by
          show z.toInt < w.toInt
          have n1 : ¬ w.toInt < z.toInt := fun q => h1 (Int64.lt_iff_toInt_lt.mpr q)
          have n2 : ¬ z.toInt = w.toInt := fun q => h2 (Int64.toInt_inj.mp q)
          omega)
        exact g_PRl (g_PRl (g_arm a1 rfl hk a2 hl ⟨⟨_, rfl, by rw [e1]; rfl⟩, hs⟩))
  · -- dup
    split at h
    rotate_left
    · cases h
    split at h
    rotate_left
    · cases h
    rename_i hc
    cases h
    obtain ⟨y, ys, rfl, hy, hs1⟩ := g_ca hs
    replace hs := hs1
    exact g_P0 (st := y :: y :: ys) (List.mem_singleton.mpr rfl) (by simp only [q_pure, if_pos ((g_cat hy).symm.trans hc)]) hk hB hl ⟨hy, hy, hs⟩
  · -- pop
    split at h
    rotate_left
    · cases h
    split at h
    rotate_left
    · cases h
    rename_i hc
    cases h
    obtain ⟨y, ys, rfl, hy, hs1⟩ := g_ca hs
    replace hs := hs1
    exact g_P0 (st := ys) (List.mem_singleton.mpr rfl) (by simp only [q_pure, if_pos ((g_cat hy).symm.trans hc)]) hk hB hl hs
  · -- dup2
    split at h
    rotate_left
    · cases h
    split at h
    rotate_left
    · cases h
    rename_i hc
    cases h
    obtain ⟨y, ys, rfl, hy, hs1⟩ := g_ca hs
    replace hs := hs1
    obtain ⟨x, xs, rfl, hx, hs1⟩ := g_ca hs
    replace hs := hs1
    have c1 := (g_cat hy).symm.trans hc.1
    have c2 := (g_cat hx).symm.trans hc.2
    exact g_P0 (st := y :: x :: y :: x :: xs) (List.mem_singleton.mpr rfl) (by simp only [q_pure]; rw [if_neg (by omega), if_pos ⟨c1, c2⟩]) hk hB hl ⟨hy, hx, hy, hx, hs⟩
  · -- pop2
    split at h
    rotate_left
    · cases h
    split at h
    rotate_left
    · cases h
    rename_i hc
    cases h
    obtain ⟨y, ys, rfl, hy, hs1⟩ := g_ca hs
    replace hs := hs1
    exact g_P0 (st := ys) (List.mem_singleton.mpr rfl) (by simp only [q_pure, if_pos ((g_cat hy).symm.trans hc)]) hk hB hl hs
  · -- ifCond
    split at h
    rotate_left
    · cases h
    obtain ⟨y, ys, rfl, hy, hs1⟩ := g_ca hs
    replace hs := hs1
    obtain ⟨w, rfl, hy⟩ := hy
    exact g_br h hk hB rfl rfl hy (w := 0) (by show (0 : Int32).toInt = 0; rfl) hl hs
  · -- if_icmp
    split at h
    rotate_left
    · cases h
    obtain ⟨y, ys, rfl, hy, hs1⟩ := g_ca hs
    replace hs := hs1
    obtain ⟨x, xs, rfl, hx, hs1⟩ := g_ca hs
    replace hs := hs1
    obtain ⟨w, rfl, hy⟩ := hy
    obtain ⟨z, rfl, hx⟩ := hx
    exact g_br h hk hB rfl rfl hx hy hl hs
  · -- goto
    exact g_to rfl h hk hB hl hs
  · -- tableswitch
    rename_i d lo hi offs
    split at h
    rotate_left
    · cases h
    split at h
    rotate_left
    · cases h
    rename_i hsz
    obtain ⟨y, ys, rfl, hy, hs1⟩ := g_ca hs
    replace hs := hs1
    obtain ⟨w, rfl, hy⟩ := hy
    obtain ⟨p1, p2, e1, e2, rfl⟩ := g_cat2 h
    obtain ⟨p3, p4, e3, e4, rfl⟩ := g_cat2 e2
    simp only [q_pure]
    by_cases h1 : w.toInt < lo
    · rw [if_pos (Or.inl h1)]
      obtain ⟨B1, a1, a2⟩ := g_asm (c := .lt) (y := (false, none, lo)) hB hy (w := lo) rfl (g_o32 w) (Or.inl rfl) h1
      exact g_PRr (g_PRl (g_to a1 e3 hk a2 hl hs))
    · by_cases h2 : hi < w.toInt
      · rw [if_pos (Or.inr h2)]
        obtain ⟨B1, a1, a2⟩ := g_asm (c := .gt) (y := (false, none, hi)) hB hy (w := hi) rfl (g_o32 w) (Or.inl rfl) h2
        exact g_PRr (g_PRr (g_to a1 e4 hk a2 hl hs))
      · rw [if_neg (by omega)]
        have hlt : (w.toInt - lo).toNat < offs.toList.length := by
          rw [Array.length_toList]
          omega
        have hget : offs[(w.toInt - lo).toNat]? = some (offs.toList[(w.toInt - lo).toNat]) := by
          rw [← Array.getElem?_toList, List.getElem?_eq_getElem hlt]
        rw [hget]
        exact g_PRl (g_tab hk hB rfl hy hl hs offs.toList lo p1 e1 _ _ (List.getElem?_eq_getElem hlt) (by omega))
  · -- lookupswitch
    split at h
    rotate_left
    · cases h
    split at h
    rotate_left
    · cases h
    rename_i hc
    obtain ⟨y, ys, rfl, hy, hs1⟩ := g_ca hs
    replace hs := hs1
    obtain ⟨w, rfl, hy⟩ := hy
    simp only [q_pure]
    rw [if_pos hc]
    exact g_lkp hk rfl hy hl hs _ _ B ps rfl hB h
  · cases h

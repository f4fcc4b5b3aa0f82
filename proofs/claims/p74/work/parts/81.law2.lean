section LRUN
variable {L a : Nat} {xs : Nat → Int32} {R : Int → Int32} {Inv : Nat → q_M → Prop} {l : q_L} {cs : List l_C}
theorem l_find_ok (hcs : ∀ c ∈ cs, l_ok Inv a xs R c) : ∀ {cs1 : List l_C}, (∀ c ∈ cs1, c ∈ cs) → ∀ {k p p1 : Nat} {st st1 : List l_V}, l_find cs1 k p st = some (p1, st1) → ∀ {ss : List Value} {m : q_M}, g_2 (l_v a xs R) st ss → Inv p m →
    ∃ (M1 : q_MI) (n : Nat) (r : Value) (m1 : q_M) (as rest : List Value), q_call q_D q_mLw k ss m = some (M1, as, rest) ∧ q_run q_D n M1 0 (lv_args 0 as) [] m = some (some r, m1) ∧ Inv p1 m1 ∧ g_2 (l_v a xs R) st1 (r :: rest)
  | [], _, k, p, p1, st, st1, h, _, _, _, _ => by cases h
  | c :: cs1, hin, k, p, p1, st, st1, h, ss, m, hs, hp => by
    unfold l_find at h
    split at h
    · rename_i hc
      obtain ⟨c1, c2, c3, c4⟩ := hc
      cases h
      subst c1
      subst c2
      have ht := g_2_rev (g_2_take c.2.1.length hs)
      have hd := g_2_drop c.2.1.length hs
      rw [c3] at ht
      have hcat := l_vcs hd
      obtain ⟨M1, n, r, m1, r1, r2, r3, r4⟩ := hcs c (hin c List.mem_cons_self) m _ (ss.drop c.2.1.length) hp ht (by omega)
      rw [List.reverse_reverse, List.take_append_drop] at r1
      exact ⟨M1, n, r, m1, _, _, r1, r2, r3, r4, hd⟩
    · exact l_find_ok hcs (fun d hd => hin d (List.mem_cons_of_mem _ hd)) h hs hp
theorem l_in {d : Int} (hL : L ≤ 3072) (ha : a + 6 ≤ L) (h0 : 0 ≤ d) (h5 : d ≤ 5) : q_in (nI (a + d.toNat)) L = true ∧ (nI (a + d.toNat)).toNatClampNeg = a + d.toNat := by
  have hb : a + d.toNat < L := by omega
  have h31 : a + d.toNat < 2 ^ 31 := by omega
  have hc := nI_clamp h31
  refine ⟨?_, hc⟩
  simp only [q_in, Bool.and_eq_true, Bool.not_eq_true', decide_eq_false_iff_not, decide_eq_true_eq]
  exact ⟨nI_pos h31, by rw [hc]; exact hb⟩
theorem l_run_ok (hcs : ∀ c ∈ cs, l_ok Inv a xs R c) (hL : L ≤ 3072) (ha : a + 6 ≤ L) (hl : l_L a l) (fin : ∀ m, Inv 1 m → l_go L xs 2439 l [] m) : ∀ (C : List q_I) (p : Nat) (st : List l_V), l_run cs C p st = true → C <:+ q_cL → ∀ I C', C = I :: C' → ∀ (ss : List Value) (m : q_M), g_2 (l_v a xs R) st ss → Inv p m → l_go L xs I.1 l ss m
  | [], _, _, h, _, _, _, _, _, _, _, _ => by cases h
  | I0 :: C, p, st, h, hC, I, C', e, ss, m, hs, hp => by
    cases e
    unfold l_run at h
    split at h
    rotate_left
    · -- back to the loop
      rename_i hj
      unfold l_jmp at hj
      split at hj
      · rename_i off hi
        split at hj
        rotate_left
        · cases hj
        rename_i hc
        obtain ⟨c1, rfl, rfl⟩ := hc
        have := g_na hs
        subst this
        refine l_go_pure hC (by rw [hi]; rfl) (pc1 := 2439) (l1 := l) (st1 := []) ?_ (fin m hp)
        rw [hi]
        simp [q_pure, q_to, c1]
      · rename_i c off hi
        split at hj
        rotate_left
        · cases hj
        rename_i hc
        obtain ⟨c1, rfl, rfl⟩ := hc
        split at hj
        rotate_left
        · cases hj
        rename_i x y
        split at hj
        rotate_left
        · cases hj
        rename_i hc
        obtain ⟨c2, rfl⟩ := hc
        obtain ⟨y1, ss1, rfl, hy1, hs1⟩ := g_ca hs
        obtain ⟨y2, ss2, rfl, hy2, hs2⟩ := g_ca hs1
        have := g_na hs2
        subst this
        obtain ⟨t, d⟩ := x
        simp only at c2
        subst c2
        have hy1 : y1 = .int (R d) := hy1
        have hy2 : y2 = .int (R d) := hy2
        subst hy1 hy2
        refine l_go_pure hC (by rw [hi]; rfl) (pc1 := 2439) (l1 := l) (st1 := []) ?_ (fin m hp)
        rw [hi]
        simp [q_pure, q_br, q_c, c1]
      · cases hj
    · cases h
    · split at h
      rotate_left
      · cases h
      rename_i p1 st1 hst
      rw [Bool.and_eq_true] at h
      obtain ⟨hnx, hrun⟩ := h
      have hC2 : C <:+ q_cL := List.IsSuffix.trans (List.suffix_cons _ _) hC
      -- the rest
      have go : ∀ (ss1 : List Value) (m1 : q_M), g_2 (l_v a xs R) st1 ss1 → Inv p1 m1 → l_go L xs (I0.1 + I0.2.2.1) l ss1 m1 := by
        intro ss1 m1 hs1 hp1
        unfold l_nx at hnx
        split at hnx
        · cases hnx
        rename_i J C1
        have := Nat.eq_of_beq_eq_true hnx
        rw [← this]
        exact l_run_ok hcs hL ha hl fin (J :: C1) p1 st1 hrun hC2 J C1 rfl ss1 m1 hs1 hp1
      unfold l_step at hst
      split at hst
      · -- aload
        rename_i k hi
        split at hst
        · rename_i hk
          subst hk
          cases hst
          exact l_go_pure hC (by rw [hi]; rfl) (pc1 := I0.1 + I0.2.2.1) (l1 := l) (st1 := .retAddr 0 :: ss) (by rw [hi]; simp [q_pure, hl.1]) (go (.retAddr 0 :: ss) m ⟨rfl, hs⟩ hp)
        · split at hst
          · rename_i hk
            subst hk
            cases hst
            exact l_go_pure hC (by rw [hi]; rfl) (pc1 := I0.1 + I0.2.2.1) (l1 := l) (st1 := .ref 0 :: ss) (by rw [hi]; simp [q_pure, hl.2.1]) (go (.ref 0 :: ss) m ⟨rfl, hs⟩ hp)
          · split at hst
            rotate_left
            · cases hst
            rename_i hk
            subst hk
            cases hst
            exact l_go_pure hC (by rw [hi]; rfl) (pc1 := I0.1 + I0.2.2.1) (l1 := l) (st1 := .ref 93 :: ss) (by rw [hi]; simp [q_pure, hl.2.2.1]) (go (.ref 93 :: ss) m ⟨rfl, hs⟩ hp)
      · -- iload
        rename_i k hi
        split at hst
        rotate_left
        · cases hst
        rename_i hk
        subst hk
        cases hst
        exact l_go_pure hC (by rw [hi]; rfl) (pc1 := I0.1 + I0.2.2.1) (l1 := l) (st1 := .int (nI a) :: ss) (by rw [hi]; simp [q_pure, hl.2.2.2]) (go (.int (nI a) :: ss) m ⟨rfl, hs⟩ hp)
      · -- iconst
        rename_i c hi
        cases hst
        refine l_go_pure hC (by rw [hi]; rfl) (by rw [hi]; rfl) ?_
        exact go (.int (Int32.ofInt c) :: ss) m ⟨rfl, hs⟩ hp
      · -- iadd
        rename_i hi
        rcases st with _ | ⟨x, _ | ⟨y, r⟩⟩
        · cases hst
        · cases hst
        simp only at hst
        split at hst
        rotate_left
        · cases hst
        rename_i hc
        obtain ⟨c1, rfl, c3, c4⟩ := hc
        cases hst
        obtain ⟨y1, ss1, rfl, hy1, hs1⟩ := g_ca hs
        obtain ⟨y2, ss2, rfl, hy2, hs2⟩ := g_ca hs1
        obtain ⟨t, d⟩ := x
        simp only at c1 c3 c4
        subst c1
        have hy1 : y1 = .int (Int32.ofInt d) := hy1
        have hy2 : y2 = .int (nI (a + (0 : Int).toNat)) := hy2
        subst hy1 hy2
        refine l_go_pure hC (by rw [hi]; rfl) (st1 := .int (nI (a + d.toNat)) :: ss2) (by rw [hi, ← l_nI c3]; rfl) (go _ m ⟨rfl, hs2⟩ hp)
      · -- iaload
        rename_i hi
        rcases st with _ | ⟨x, _ | ⟨y, r⟩⟩
        · cases hst
        · cases hst
        simp only at hst
        split at hst
        rotate_left
        · cases hst
        rename_i hc
        obtain ⟨c1, c2, c3, c4⟩ := hc
        cases hst
        obtain ⟨y1, ss1, rfl, hy1, hs1⟩ := g_ca hs
        obtain ⟨y2, ss2, rfl, hy2, hs2⟩ := g_ca hs1
        obtain ⟨t, d⟩ := x
        obtain ⟨t2, d2⟩ := y
        simp only at c1 c2 c3 c4
        subst c1 c2
        have hy1 : y1 = .int (nI (a + d.toNat)) := hy1
        have hy2 : y2 = .retAddr 0 := hy2
        subst hy1 hy2
        obtain ⟨i1, i2⟩ := l_in hL ha c3 c4
        exact l_go_scr hC (by rw [hi]; rfl) (st1 := .int (xs (a + d.toNat)) :: ss2) (by rw [hi]; simp [q_scr, i1, i2]) (go _ m ⟨rfl, hs2⟩ hp)
      · -- i2l
        rename_i hi
        split at hst
        rotate_left
        · cases hst
        rename_i x r
        split at hst
        rotate_left
        · cases hst
        rename_i hc
        cases hst
        obtain ⟨y1, ss1, rfl, hy1, hs1⟩ := g_ca hs
        obtain ⟨z, rfl⟩ := l_vI hy1 hc
        refine l_go_pure hC (by rw [hi]; rfl) (by rw [hi]; rfl) ?_
        exact go _ m ⟨⟨_, rfl⟩, hs1⟩ hp
      · -- lshl
        rename_i hi
        split at hst
        rotate_left
        · cases hst
        rename_i x y r
        split at hst
        rotate_left
        · cases hst
        rename_i hc
        cases hst
        obtain ⟨y1, ss1, rfl, hy1, hs1⟩ := g_ca hs
        obtain ⟨y2, ss2, rfl, hy2, hs2⟩ := g_ca hs1
        obtain ⟨z, rfl⟩ := l_vI hy1 hc.1
        obtain ⟨w, rfl⟩ := l_vL hy2 hc.2
        refine l_go_pure hC (by rw [hi]; rfl) (by rw [hi]; rfl) ?_
        exact go _ m ⟨⟨_, rfl⟩, hs2⟩ hp
      · -- land
        rename_i hi
        split at hst
        rotate_left
        · cases hst
        rename_i x y r
        split at hst
        rotate_left
        · cases hst
        rename_i hc
        cases hst
        obtain ⟨y1, ss1, rfl, hy1, hs1⟩ := g_ca hs
        obtain ⟨y2, ss2, rfl, hy2, hs2⟩ := g_ca hs1
        obtain ⟨z, rfl⟩ := l_vL hy1 hc.1
        obtain ⟨w, rfl⟩ := l_vL hy2 hc.2
        refine l_go_pure hC (by rw [hi]; rfl) (by rw [hi]; rfl) ?_
        exact go _ m ⟨⟨_, rfl⟩, hs2⟩ hp
      · -- lor
        rename_i hi
        split at hst
        rotate_left
        · cases hst
        rename_i x y r
        split at hst
        rotate_left
        · cases hst
        rename_i hc
        cases hst
        obtain ⟨y1, ss1, rfl, hy1, hs1⟩ := g_ca hs
        obtain ⟨y2, ss2, rfl, hy2, hs2⟩ := g_ca hs1
        obtain ⟨z, rfl⟩ := l_vL hy1 hc.1
        obtain ⟨w, rfl⟩ := l_vL hy2 hc.2
        refine l_go_pure hC (by rw [hi]; rfl) (by rw [hi]; rfl) ?_
        exact go _ m ⟨⟨_, rfl⟩, hs2⟩ hp
      · -- a long out of the pool
        rename_i c hi
        cases hst
        refine l_go_lk hC (by rw [hi]; rfl) (by rw [hi]; rfl) ?_
        exact go _ m ⟨⟨_, rfl⟩, hs⟩ hp
      · -- pop
        rename_i hi
        split at hst
        rotate_left
        · cases hst
        rename_i x r
        split at hst
        rotate_left
        · cases hst
        rename_i hc
        cases hst
        obtain ⟨y1, ss1, rfl, hy1, hs1⟩ := g_ca hs
        obtain ⟨z, rfl⟩ := l_vI hy1 hc
        refine l_go_pure hC (by rw [hi]; rfl) (by rw [hi]; rfl) ?_
        exact go _ m hs1 hp
      · -- pop2
        rename_i hi
        split at hst
        rotate_left
        · cases hst
        rename_i x r
        split at hst
        rotate_left
        · cases hst
        rename_i hc
        cases hst
        obtain ⟨y1, ss1, rfl, hy1, hs1⟩ := g_ca hs
        obtain ⟨z, rfl⟩ := l_vL hy1 hc
        refine l_go_pure hC (by rw [hi]; rfl) (by rw [hi]; rfl) ?_
        exact go _ m hs1 hp
      · -- a call
        rename_i k hi
        obtain ⟨M1, n, r, m1, as, rest, r1, r2, r3, r4⟩ := l_find_ok hcs (fun c h => h) hst hs hp
        exact l_go_call hC (by rw [hi]; rfl) (k := k) (by rw [hi]; rfl) r1 r2 (go _ m1 r4 r3)
      · cases hst
end LRUN

/-! THE LAW's LOOP -/
theorem q_get_flt {i k : Nat} {v : Value} (hk : k ≠ i) (hc : v.category ≠ 2) : ∀ {l : q_L}, q_get l k = some v → q_get (l.filter (fun q => !(q.1 == i) && !(q.1 + 1 == i && q.2.category == 2))) k = some v
  | [], h => by cases h
  | q :: l, h => by
    unfold q_get at h
    rw [List.filter_cons]
    by_cases hq : q.1 = k
    · rw [if_pos hq] at h
      cases h
      have e : (!(q.1 == i) && !(q.1 + 1 == i && q.2.category == 2)) = true := by
        simp [hq, hk, hc]
      rw [if_pos e]
      unfold q_get
      rw [if_pos hq]
    · rw [if_neg hq] at h
      have ih := q_get_flt hk hc h
      split
      · unfold q_get
        rw [if_neg hq]
        exact ih
      · exact ih
theorem q_get_s1 {i k : Nat} {v w : Value} {l : q_L} (hk : k ≠ i) (hc : v.category ≠ 2) (h : q_get l k = some v) : q_get (q_s1 l i w) k = some v := by
  unfold q_s1 q_get
  rw [if_neg (fun e => hk e.symm)]
  exact q_get_flt hk hc h
theorem q_get_s1' {i : Nat} {w : Value} {l : q_L} : q_get (q_s1 l i w) i = some w := by
  unfold q_s1 q_get
  rw [if_pos rfl]
def l_at (pc : Nat) : List q_I → List q_I
  | [] => []
  | I :: C => match Nat.beq I.1 pc with
    | true => I :: C
    | false => l_at pc C
theorem l_at_ok {pc : Nat} : ∀ {C D : List q_I}, C <:+ D → (∀ I C1, l_at pc C = I :: C1 → I.1 = pc ∧ (I :: C1) <:+ D)
  | [], D, _, I, C1, h => by cases h
  | J :: C, D, hD, I, C1, h => by
    unfold l_at at h
    split at h
    · rename_i hb
      cases h
      exact ⟨Nat.eq_of_beq_eq_true hb, hD⟩
    · exact l_at_ok (List.IsSuffix.trans (List.suffix_cons _ _) hD) I C1 h
theorem l_atc (pc : Nat) {I : q_I} {C1 : List q_I} (h : l_at pc q_cL = I :: C1) : (I :: C1) <:+ q_cL := (l_at_ok (List.suffix_refl _) I C1 h).2
def l_offs : List Int := [307, 370, 393, 406, 429, 462, 495, 508, 541, 574, 597, 620, 653, 686, 719, 732, 755, 778, 801, 824, 847, 870, 883, 906, 929, 952, 975, 998, 1021, 1044, 1077, 1110, 1153, 1186, 1209, 1232, 1255, 1288, 1311, 1334, 1377, 1410, 1443, 1486, 1519, 1552, 1585, 1618, 1641, 1664, 1687, 1720, 1743, 1756, 1779, 1792, 1825, 1838, 1851, 1874, 1897, 1920, 1953, 1996, 2019, 2062, 2105, 2158, 2181, 2204, 2227, 2270, 2343]
def l_chk (cs : List l_C) : Bool := l_offs.all (fun off => decide (0 ≤ off) && l_run cs (l_at (33 + off.toNat) q_cL) 0 [])
theorem l_18 : l_at 18 q_cL = (18, .iload_n 3, 1, .iload 3, 0) :: l_at 19 q_cL := by decide +kernel
theorem l_19 : l_at 19 q_cL = (19, .aload_n 0, 1, .aload 0, 0) :: l_at 20 q_cL := by decide +kernel
theorem l_20 : l_at 20 q_cL = (20, .arraylength, 1, .arraylength, 0) :: l_at 21 q_cL := by decide +kernel
theorem l_21 : l_at 21 q_cL = (21, .bipush 6, 2, .iconst 6, 0) :: l_at 23 q_cL := by decide +kernel
theorem l_23 : l_at 23 q_cL = (23, .isub, 1, .isub, 0) :: l_at 24 q_cL := by decide +kernel
theorem l_24 : l_at 24 q_cL = (24, .if_icmp .gt 2421, 3, .if_icmp .gt 2421, 0) :: l_at 27 q_cL := by decide +kernel
theorem l_27 : l_at 27 q_cL = (27, .aload_n 0, 1, .aload 0, 0) :: l_at 28 q_cL := by decide +kernel
theorem l_28 : l_at 28 q_cL = (28, .iload_n 3, 1, .iload 3, 0) :: l_at 29 q_cL := by decide +kernel
theorem l_29 : l_at 29 q_cL = (29, .iaload, 1, .iaload, 0) :: l_at 30 q_cL := by decide +kernel
theorem l_30 : l_at 30 q_cL = (30, .bipush 127, 2, .iconst 127, 0) :: l_at 32 q_cL := by decide +kernel
theorem l_32 : l_at 32 q_cL = (32, .iand, 1, .iand, 0) :: l_at 33 q_cL := by decide +kernel
theorem l_33 : l_at 33 q_cL = (33, .tableswitch 2406 0 72 l_offs.toArray, 307, .tableswitch 2406 0 72 l_offs.toArray, 0) :: l_at 340 q_cL := by decide +kernel
theorem l_2439 : l_at 2439 q_cL = (2439, .iinc 3 6, 3, .iinc 3 6, 0) :: l_at 2442 q_cL := by decide +kernel
theorem l_2442 : l_at 2442 q_cL = (2442, .goto (-2424), 3, .goto (-2424), 0) :: l_at 2445 q_cL := by decide +kernel
theorem l_2445 : l_at 2445 q_cL = (2445, .iconst 1, 1, .iconst 1, 0) :: l_at 2446 q_cL := by decide +kernel
theorem l_2446 : l_at 2446 q_cL = [(2446, .ireturn, 1, .ireturn, 0)] := by decide +kernel
section LLOOP
variable {L : Nat} {xs : Nat → Int32} {l : q_L} {m : q_M}
theorem l_end (h1 : m.length ≤ 600000) (h2 : q_sl m ≤ 7302250) : l_go L xs 2445 l [] m := by
  refine l_go_pure (l_atc 2445 l_2445) rfl (pc1 := 2446) (l1 := l) (st1 := [.int 1]) rfl ?_
  refine ⟨1, m, ?_, h1, h2⟩
  have hs : ((2446, .ireturn, 1, .ireturn, 0) :: ([] : List q_I)) <:+ q_mC q_mLw := l_atc 2446 l_2446
  have hfd := q_fd_suf l_srt hs
  simp only at hfd
  rw [q_lrun]
  simp only [hfd]
  rfl
theorem l_back {a : Nat} (hl : l_L a l) (k : ∀ l1, l_L (a + 6) l1 → l_go L xs 18 l1 [] m) : l_go L xs 2439 l [] m := by
  refine l_go_pure (l_atc 2439 l_2439) rfl (pc1 := 2442) (l1 := q_s1 l 3 (.int (nI a + Int32.ofInt 6))) (st1 := []) (by simp [q_pure, hl.2.2.2]) ?_
  refine l_go_pure (l_atc 2442 l_2442) rfl (pc1 := 18) (l1 := q_s1 l 3 (.int (nI a + Int32.ofInt 6))) (st1 := []) (by simp [q_pure, q_to]) ?_
  refine k _ ⟨q_get_s1 (by decide) (by simp [Value.category]) hl.1, q_get_s1 (by decide) (by simp [Value.category]) hl.2.1, q_get_s1 (by decide) (by simp [Value.category]) hl.2.2.1, ?_⟩
  rw [q_get_s1']
  have := l_nI (a := a) (c := 6) (by decide)
  have e : nI (a + (0 : Int).toNat) = nI a := rfl
  rw [e] at this
  rw [this]
  rfl
theorem l_head {a : Nat} (hL : L ≤ 3072) (ha : a ≤ L + 5) (hl : l_L a l) (h1 : a + 6 ≤ L → l_go L xs 27 l [] m) (h2 : l_go L xs 2445 l [] m) : l_go L xs 18 l [] m := by
  refine l_go_pure (l_atc 18 l_18) rfl (pc1 := 19) (l1 := l) (st1 := [.int (nI a)]) (by simp [q_pure, hl.2.2.2]) ?_
  refine l_go_pure (l_atc 19 l_19) rfl (pc1 := 20) (l1 := l) (st1 := [.retAddr 0, .int (nI a)]) (by simp [q_pure, hl.1]) ?_
  refine l_go_scr (l_atc 20 l_20) rfl (st1 := [.int (Int32.ofNat L), .int (nI a)]) (by simp [q_scr]) ?_
  refine l_go_pure (l_atc 21 l_21) rfl (pc1 := 23) (l1 := l) (st1 := [.int (Int32.ofInt 6), .int (Int32.ofNat L), .int (nI a)]) rfl ?_
  refine l_go_pure (l_atc 23 l_23) rfl (pc1 := 24) (l1 := l) (st1 := [.int (Int32.ofNat L - Int32.ofInt 6), .int (nI a)]) rfl ?_
  have e6 : (Int32.ofNat L - Int32.ofInt 6).toInt = (L : Int) - 6 := by
    have e1 : (Int32.ofNat L).toInt = (L : Int) := nI_toInt (by omega)
    have e2 : (Int32.ofInt 6).toInt = 6 := by decide
    rw [Int32.toInt_sub, e1, e2]
    exact Int.bmod_eq_of_le (by omega) (by omega)
  have ea : (nI a).toInt = (a : Int) := nI_toInt (by omega)
  by_cases hc : (Int32.ofNat L - Int32.ofInt 6) < nI a
  · refine l_go_pure (l_atc 24 l_24) rfl (pc1 := 2445) (l1 := l) (st1 := []) (by simp only [q_pure, q_br, q_c, decide_eq_true hc]; simp) h2
  · refine l_go_pure (l_atc 24 l_24) rfl (pc1 := 27) (l1 := l) (st1 := []) (by simp only [q_pure, q_br, q_c, decide_eq_false hc]; simp) (h1 ?_)
    rw [Int32.lt_iff_toInt_lt, e6, ea] at hc
    omega
theorem l_loop {J : q_M → Prop} (hJ : ∀ m, J m → m.length ≤ 600000 ∧ q_sl m ≤ 7302250) {cs : List l_C} (hchk : l_chk cs = true) (hL : L ≤ 3072)
    (H : ∀ a, a + 6 ≤ L → ∀ m, J m → ∃ (R : Int → Int32) (Inv : Nat → q_M → Prop), Inv 0 m ∧ (∀ m1, Inv 1 m1 → J m1) ∧ ∀ c ∈ cs, l_ok Inv a xs R c) : ∀ (k a : Nat) (l : q_L) (m : q_M), L + 6 ≤ a + k → a ≤ L + 5 → l_L a l → J m → l_go L xs 18 l [] m
  | 0, a, l, m, hk, ha, _, _ => by omega
  | k + 1, a, l, m, hk, ha, hl, hm => by
    refine l_head hL ha hl (fun h6 => ?_) (l_end (hJ m hm).1 (hJ m hm).2)
    have fin : ∀ m1, J m1 → l_go L xs 2439 l [] m1 := fun m1 h1 => l_back hl (fun l1 hl1 => l_loop hJ hchk hL H k (a + 6) l1 m1 (by omega) (by omega) hl1 h1)
    obtain ⟨i1, i2⟩ := l_in (d := 0) hL h6 (by decide) (by decide)
    refine l_go_pure (l_atc 27 l_27) rfl (pc1 := 28) (l1 := l) (st1 := [.retAddr 0]) (by simp [q_pure, hl.1]) ?_
    refine l_go_pure (l_atc 28 l_28) rfl (pc1 := 29) (l1 := l) (st1 := [.int (nI (a + (0 : Int).toNat)), .retAddr 0]) (by simp [q_pure, hl.2.2.2]) ?_
    refine l_go_scr (l_atc 29 l_29) rfl (st1 := [.int (xs a)]) (by simp only [q_scr]; rw [i2, i1]; simp) ?_
    refine l_go_pure (l_atc 30 l_30) rfl (pc1 := 32) (l1 := l) (st1 := [.int (Int32.ofInt 127), .int (xs a)]) rfl ?_
    refine l_go_pure (l_atc 32 l_32) rfl (pc1 := 33) (l1 := l) (st1 := [.int (xs a &&& Int32.ofInt 127)]) rfl ?_
    generalize xs a &&& Int32.ofInt 127 = x
    by_cases hx : x.toInt < 0 ∨ 72 < x.toInt
    · refine l_go_pure (l_atc 33 l_33) rfl (pc1 := 2439) (l1 := l) (st1 := []) ?_ (fin m hm)
      simp only [q_pure]
      rw [if_pos hx]
      simp [q_to]
    · have hlt : (x.toInt - 0).toNat < l_offs.length := by
        show _ < 73
        omega
      have hoff : l_offs.toArray[(x.toInt - 0).toNat]? = some (l_offs[(x.toInt - 0).toNat]) := by
        rw [List.getElem?_toArray, List.getElem?_eq_getElem hlt]
      have hmem : l_offs[(x.toInt - 0).toNat] ∈ l_offs := List.getElem_mem hlt
      have hc := List.all_eq_true.mp hchk _ hmem
      generalize l_offs[(x.toInt - 0).toNat] = off at hoff hc
      rw [Bool.and_eq_true, decide_eq_true_eq] at hc
      obtain ⟨hc0, hc⟩ := hc
      obtain ⟨o, rfl⟩ := Int.eq_ofNat_of_zero_le hc0
      refine l_go_pure (l_atc 33 l_33) rfl (pc1 := 33 + o) (l1 := l) (st1 := []) ?_ ?_
      · simp only [q_pure]
        rw [if_neg hx, hoff]
        simp only [q_to]
        rw [if_pos (by omega)]
        simp only [Option.some.injEq, Prod.mk.injEq, and_true]
        omega
      · have hc : l_run cs (l_at (33 + o) q_cL) 0 [] = true := hc
        generalize hat : l_at (33 + o) q_cL = C at hc
        cases C with
        | nil => cases hc
        | cons I C1 =>
          obtain ⟨p1, p2⟩ := l_at_ok (List.suffix_refl q_cL) I C1 hat
          obtain ⟨R, Inv, v1, v2, v3⟩ := H a h6 m hm
          rw [← p1]
          exact l_run_ok v3 hL h6 hl (fun m1 h1 => fin m1 (v2 m1 h1)) (I :: C1) 0 [] hc p2 I C1 rfl [] m trivial v1
end LLOOP

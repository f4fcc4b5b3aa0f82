/-! behind the constructors all holds; the law from its entry -/
theorem t_r0_ok : t_r0 = some (none, t_m0) := by
  obtain ⟨m, e, -⟩ := t_is_ok t_r0_is
  have : t_m0 = m := by
    unfold t_m0
    rw [e]
  rw [this]
  exact e
theorem t_r1_ok : t_r1 = some (none, t_m1) := by
  obtain ⟨m, e, -⟩ := t_is_ok t_r1_is
  have : t_m1 = m := by
    unfold t_m1
    rw [e]
  rw [this]
  exact e
theorem t_m0_len : t_m0.length = 93 := by
  obtain ⟨m, e, h⟩ := t_is_ok t_r0_is
  have : t_m0 = m := by
    unfold t_m0
    rw [e]
  rw [this]
  exact h
theorem t_zb : q_zb t_m1 := by
  have h0 : q_zb t_m0 := q_zb_run _ _ _ _ _ [t_c0] none t_m0 (fun x hx => by
    rw [List.mem_singleton.mp hx]
    trivial) t_r0_ok
  exact q_zb_run _ _ _ _ _ _ none t_m1 (q_zb_push (x := t_c1) h0 trivial) t_r1_ok
theorem t_J {c b : Nat} (h : q_i t_m1 c (b + 3) = 0) : r_J t_m1 c b := by
  unfold r_J
  rw [h]
  exact ⟨fun k _ hk => by omega, fun x _ => by simp [r_cnt]⟩
set_option maxRecDepth 100000 in
theorem t_lJ : l_J t_m1 := by
  refine And.intro (l_ckM_ok (xs := kc_I) (ys := t_m1) t_zb t_ck) (fun id hid => ?_)
  simp only [l_ids, List.mem_cons, List.not_mem_nil, or_false] at hid
  rcases hid with rfl | rfl | rfl | rfl
  · exact t_J (c := 94) (b := 0) t_j0
  · exact t_J (c := 95) (b := 0) t_j2
  · exact t_J (c := 95) (b := 277) t_j3
  · exact t_J (c := 95) (b := 554) t_j4
theorem l_go_new {L : Nat} {xs : Nat → Int32} {l : q_L} {st st1 : List Value} {m : q_M} {x : q_E} {I : q_I} {C : List q_I} (hC : (I :: C) <:+ q_cL) (hg : q_grp I.2.2.2.1 = 2) (hp : q_new q_D I.2.2.2.1 st m = some (st1, x)) (k : l_go L xs (I.1 + I.2.2.1) l st1 (m ++ [x])) : l_go L xs I.1 l st m := by
  refine l_go_step (fun n => ?_) k
  have hfd : q_fd (q_mC q_mLw) I.1 = some I := q_fd_suf l_srt hC
  obtain ⟨a, b, c, d, e⟩ := I
  simp only at hg hfd hp
  rw [q_lrun]
  simp only [hfd, hg, hp]
theorem l_0 : l_at 0 q_cL = (0, .new 7, 3, .new 9, 1020) :: l_at 3 q_cL := by decide +kernel
theorem l_3 : l_at 3 q_cL = (3, .dup, 1, .dup, 0) :: l_at 4 q_cL := by decide +kernel
theorem l_4 : l_at 4 q_cL = (4, .invokespecial 9, 3, .invokespecial 0, 1022) :: l_at 7 q_cL := by decide +kernel
theorem l_7 : l_at 7 q_cL = (7, .astore_n 1, 1, .astore 1, 0) :: l_at 8 q_cL := by decide +kernel
theorem l_8 : l_at 8 q_cL = (8, .new 10, 3, .new 10, 6077) :: l_at 11 q_cL := by decide +kernel
theorem l_11 : l_at 11 q_cL = (11, .dup, 1, .dup, 0) :: l_at 12 q_cL := by decide +kernel
theorem l_12 : l_at 12 q_cL = (12, .invokespecial 12, 3, .invokespecial 216, 6079) :: l_at 15 q_cL := by decide +kernel
theorem l_15 : l_at 15 q_cL = (15, .astore_n 2, 1, .astore 2, 0) :: l_at 16 q_cL := by decide +kernel
theorem l_16 : l_at 16 q_cL = (16, .iconst 0, 1, .iconst 0, 0) :: l_at 17 q_cL := by decide +kernel
theorem l_17 : l_at 17 q_cL = (17, .istore_n 3, 1, .istore 3, 0) :: l_at 18 q_cL := by decide +kernel
theorem t_callI {k : Nat} {M1 : q_MI} {a : Nat} {m : q_M} (hk : (q_gM q_D)[k]? = some M1) (h : q_na M1 = 1 ∧ q_mF M1 + 1 ≤ 14 ∧ 8 + (q_mL M1 + 11) + q_mO M1 ≤ 520 ∧ 1 ≤ q_mL M1 ∧ q_mK M1 = 2) : q_call q_D q_mLw k [.ref a, .ref a] m = some (M1, [.ref a], [.ref a]) := by
  obtain ⟨h1, h2, h3, h4, h5⟩ := h
  unfold q_call
  rw [hk]
  simp only
  rw [h1]
  rw [if_pos]
  · rfl
  refine ⟨by simp, by simp [q_cats, Value.category], h2, h3, by simpa [q_cats, Value.category] using h4, ?_⟩
  unfold q_rcv
  rw [h5]
  rfl
theorem l_begin {L : Nat} {xs : Nat → Int32} (k : ∀ l, l_L 0 l → l_go L xs 18 l [] t_m1) : l_go L xs 0 [(0, .retAddr 0)] [] [] := by
  refine l_go_new (l_atc 0 l_0) rfl (st1 := [.ref 0]) (x := t_c0) rfl ?_
  refine l_go_pure (l_atc 3 l_3) rfl (pc1 := 4) (l1 := [(0, .retAddr 0)]) (st1 := [.ref 0, .ref 0]) rfl ?_
  refine l_go_call (l_atc 4 l_4) rfl (k := 0) rfl (t_callI (a := 0) (M1 := q_m0) rfl (by decide)) t_r0_ok ?_
  refine l_go_pure (l_atc 7 l_7) rfl (pc1 := 8) (l1 := q_s1 [(0, .retAddr 0)] 1 (.ref 0)) (st1 := []) rfl ?_
  have e93 : q_new q_D (.new 10) [] t_m0 = some ([.ref 93], t_c1) := by
    show some (Value.ref t_m0.length :: ([] : List Value), t_c1) = _
    rw [t_m0_len]
  refine l_go_new (l_atc 8 l_8) rfl e93 ?_
  refine l_go_pure (l_atc 11 l_11) rfl (pc1 := 12) (l1 := q_s1 [(0, .retAddr 0)] 1 (.ref 0)) (st1 := [.ref 93, .ref 93]) rfl ?_
  refine l_go_call (l_atc 12 l_12) rfl (k := 216) rfl (t_callI (a := 93) (M1 := q_m216) rfl (by decide)) t_r1_ok ?_
  refine l_go_pure (l_atc 15 l_15) rfl (pc1 := 16) (l1 := q_s1 (q_s1 [(0, .retAddr 0)] 1 (.ref 0)) 2 (.ref 93)) (st1 := []) rfl ?_
  refine l_go_pure (l_atc 16 l_16) rfl (pc1 := 17) (l1 := q_s1 (q_s1 [(0, .retAddr 0)] 1 (.ref 0)) 2 (.ref 93)) (st1 := [.int (Int32.ofInt 0)]) rfl ?_
  refine l_go_pure (l_atc 17 l_17) rfl (pc1 := 18) (l1 := q_s1 (q_s1 (q_s1 [(0, .retAddr 0)] 1 (.ref 0)) 2 (.ref 93)) 3 (.int (Int32.ofInt 0))) (st1 := []) rfl ?_
  exact k _ ⟨rfl, rfl, rfl, rfl⟩

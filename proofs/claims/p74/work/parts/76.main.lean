def q_Cx (G : q_G) (D : va_G) (bs : q_B) (tc : Nat → ClassId) (M : q_MI) (q0 qF : q_M) (p : Program) (R : Room) (s : State) (m : MethodId) (args : Array Value) (meth : Method) (c : Code) : Prop :=
  p.tables.exec = Jvm.exec ∧ c.code = q_mB M ∧ c.maxLocals = q_mL M ∧ s.vm.findClass (q_mY M).cls = some m.cls ∧ (∀ w ∈ q_T G, w.before args s = true) ∧ va_K D (q_gC G) (q_tyl G tc) s ∧ q_Nst G s ∧ q_Sh G bs s s.heap ∧ meth.sig.returnType = q_mR M ∧ meth.locks = false ∧ (q_mK M = 2 → meth.name = "<init>") ∧ s.heap.size = bs.1 + q0.length
  ∧ R = ({ frames := q_mF M, cells := qF.length - q0.length, slots := q_sl qF - q_sl q0, locals := q_mO M } : Room)
def q_Dx (G : q_G) (D : va_G) (bs : q_B) (tc : Nat → ClassId) (M : q_MI) (q0 q : q_M) (lv : q_L) (s : State) (H : Heap) (locs : List Loc) (cells slots : Nat) (ls : Array Slot) : Prop :=
  q_Wd D (q_gC G) bs tc q H ∧ va_S (fun z => bs.1 ≤ z) s.heap H locs ∧ lv_has ls (q_mL M) (q_cl bs lv) ∧ cells = q.length - q0.length ∧ slots = q_sl q - q_sl q0 ∧ q0.length ≤ q.length ∧ q_sl q0 ≤ q_sl q
theorem q_good {G : q_G} {M : q_MI} (hok : q_okM G M) : GoodIn (q_T G) (q_ws G M) := by
  intro w hw
  rcases List.mem_cons.mp hw with rfl | h
  · have h1 := hok.1
    simp only [q_okH, Bool.and_eq_true, decide_eq_true_eq] at h1
    exact ⟨q_T_at h1.1.1.2 rfl, Or.inl rfl⟩
  · exact ⟨h, good_of_word (List.mem_filter.mp h).2⟩
/-- a method's contract out of its walk -/
theorem q_metI {G : q_G} {l : Launch} {D : va_G} {bs : q_B} {tc : Nat → ClassId} {M : q_MI} {as : List Value} {q qF : q_M} {r : Option Value} (hok : q_okM G M) (hm : q.length ≤ qF.length ∧ q_sl q ≤ q_sl qF) (hcats : q_cats as ≤ q_mL M)
    (ih : ∀ {p : Program} {e : Env} {R : Room} {s : State} {m : MethodId} {args : Array Value} {below : List Frame} {meth : Method} {c : Code} {H : Heap} {locs : List Loc} {cells slots : Nat} {ls : Array Slot} {q0 : q_M}, q_Cx G D bs tc M q0 qF p R s m args meth c → q_Dx G D bs tc M q0 q (lv_args 0 as) s H locs cells slots ls →
      W p l e R s m args below meth c H locs cells slots (MQ below (q_Qc G D bs tc r qF) args s (qF.length - q0.length) (q_sl qF - q_sl q0) (fun z => bs.1 ≤ z)) (F0 m 0 ls [])) :
    Met l (q_mY M) (q_ws G M) ({ frames := q_mF M, cells := qF.length - q.length, slots := q_sl qF - q_sl q, locals := q_mO M } : Room) (q_Pc G D bs tc as q) (q_Qc G D bs tc r qF) (qF.length - q.length) (q_sl qF - q_sl q) (fun z => bs.1 ≤ z) := by
  have h1 := hok.1
  simp only [q_okH, Bool.and_eq_true, decide_eq_true_eq] at h1
  refine q_ofW (cc := q_mB M) (maxL := q_mL M) (ret := q_mR M) h1.1.1.1.1 rfl ?_
  intro p e s m args below meth c s₁ B hml hv
  obtain ⟨rfl, hsz, hP, hK, hN, hSh⟩ := hv
  have hts := atoms_spec (ws := q_ws G M) B.pre
  have hown := findClass_of_methodNamed B.named
  have hlocks := B.notSynchronized
  have hin : meth.name = (q_mY M).name := (name_of_methodNamed B.named B.method).1
  have hl := lv_entry (as.map (q_cv bs)) (n := q_mL M) (by rw [q_sl_len]; exact hcats)
  rw [q_args_cl] at hl
  rw [lg_entry_eq]
  refine ih (q0 := q) ⟨B.exec, B.bytes, hml, hown, fun w hw => hts w (List.mem_cons_of_mem _ hw), hK, hN, hSh, B.returns, hlocks, fun hk => ?_, hsz, rfl⟩ ⟨hP, va_S.rf, hl, by omega, by omega, Nat.le_refl _, Nat.le_refl _⟩
  have h2 := h1.2
  rw [hk] at h2
  simp only [decide_eq_true_eq] at h2
  rw [hin, h2.2.1]
theorem q_stsplit {st : List Value} {n : Nat} {as : List Value} (h : as = (st.take n).reverse) : st = as.reverse ++ st.drop n := by
  rw [h, List.reverse_reverse, List.take_append_drop]
theorem q_cats_rev (as : List Value) : q_cats as.reverse = q_cats as := by
  unfold q_cats
  rw [List.map_reverse]
  exact (List.reverse_perm _).sum_nat
section QINV
variable {p : Program} {l : Launch} {e : Env} {R : Room} {s : State} {m : MethodId} {args : Array Value} {below : List Frame} {meth : Method} {c : Code} {H : Heap} {locs : List Loc} {cells slots : Nat} {Q : State → Prop}
variable {cc : ByteArray} {pc : Nat} {ls : Array Slot} {G : q_G} {D : va_G} {bs : q_B} {tc : Nat → ClassId}
/-- a call, over its callee's contract -/
theorem q_invW (hx : p.tables.exec = Jvm.exec) (hb : c.code = cc) {nL : Nat} (hml : c.maxLocals = nL) {own : String} (hown : s.vm.findClass own = some m.cls) (hts : ∀ w ∈ q_T G, w.before args s = true) (hK : va_K D (q_gC G) (q_tyl G tc) s) (hN : q_Nst G s) (hSh : q_Sh G bs s s.heap)
    {M M2 : q_MI} (hokM : q_okM G M2) (hRf : q_mF M = R.frames) (hRl : q_mO M = R.locals) {len pos k : Nat} {raw i : Instr} {lv : q_L} {st as rest : List Value} {q q1 : q_M} {r1 : Option Value} (hd : decode cc pc = .ok (raw, len)) (hok : q_ok4 G own raw len i pos = true) (hk : q_cnum i = some k) (hcall : q_call G M k st q = some (M2, as, rest))
    (hMet0 : q_cats as ≤ q_mL M2 → Met l (q_mY M2) (q_ws G M2) ({ frames := q_mF M2, cells := q1.length - q.length, slots := q_sl q1 - q_sl q, locals := q_mO M2 } : Room) (q_Pc G D bs tc as q) (q_Qc G D bs tc r1 q1) (q1.length - q.length) (q_sl q1 - q_sl q) (fun z => bs.1 ≤ z))
    (hw : q_Wd D (q_gC G) bs tc q H) (hS : va_S (fun z => bs.1 ≤ z) s.heap H locs) (hl : lv_has ls nL lv) (hzz : H.size = bs.1 + q.length) (hfit : cells + (q1.length - q.length) ≤ R.cells ∧ slots + (q_sl q1 - q_sl q) ≤ R.slots)
    (kk : ∀ (H1 : Heap) (locs1 : List Loc), q_Wd D (q_gC G) bs tc q1 H1 → va_S (fun z => bs.1 ≤ z) s.heap H1 locs1 → W p l e R s m args below meth c H1 locs1 (cells + (q1.length - q.length)) (slots + (q_sl q1 - q_sl q)) Q (F0 m (pc + len) ls ((r1.toList ++ rest).map (q_cv bs)))) : W p l e R s m args below meth c H locs cells slots Q (F0 m pc ls (st.map (q_cv bs))) := by
  unfold q_call at hcall
  split at hcall
  · cases hcall
  rename_i M3 hM2
  split at hcall
  rotate_left
  · cases hcall
  rename_i hcc
  obtain ⟨hlen, hca, hfr, hlo, hcb, hrc⟩ := hcc
  have e0 := Option.some.inj hcall
  have e1 : M3 = M2 := congrArg Prod.fst e0
  subst e1
  have e2 : as = (st.take (q_na M3)).reverse := (congrArg (fun z => z.2.1) e0).symm
  have e3 : rest = st.drop (q_na M3) := (congrArg (fun z => z.2.2) e0).symm
  have hst : st = as.reverse ++ rest := by rw [e3]; exact q_stsplit e2
  have hcas : q_cats as ≤ q_mL M3 := by rw [e2, q_cats_rev]; exact hcb
  have hMet := hMet0 hcas
  have hH := hokM.1
  simp only [q_okH, Bool.and_eq_true, decide_eq_true_eq] at hH
  obtain ⟨⟨⟨⟨-, hnm⟩, hcode⟩, hinit⟩, hkind⟩ := hH
  have hPre : ∀ U : State, U.heap = H → s.WarmedH U.vm → q_Pc G D bs tc as q ((as.map (q_cv bs)).toArray) U := fun U hU hW => ⟨rfl, by rw [hU]; exact hzz, by rw [hU]; exact hw, va_K.moved hW.alike hK, q_Nst_warm hW hN, by rw [hU]; exact q_Sh_warm hW (q_Sh_kept hS hSh)⟩
  have hroom : 2 * (F0 m pc ls (st.map (q_cv bs))).monitorRoom + ((rest.map (q_cv bs)).map fun v => v.category).sum ≤ 8 := by
    rw [q_cats_cv, e3]
    simpa [JFrame.monitorRoom] using hca
  have goOn : ∀ (H1 : Heap) (locs1 : List Loc), q_Wd D (q_gC G) bs tc q1 H1 → va_S (fun z => bs.1 ≤ z) s.heap H1 locs1 → len = 3 → W p l e R s m args below meth c H1 locs1 (cells + (q1.length - q.length)) (slots + (q_sl q1 - q_sl q)) Q (F0 m (pc + 3) ls ((r1.map (q_cv bs)).toList ++ rest.map (q_cv bs))) := by
    intro H1 locs1 hw1 hS1 hlen3
    subst hlen3
    have K := kk H1 locs1 hw1 hS1
    have e9 : (r1.toList ++ rest).map (q_cv bs) = (r1.map (q_cv bs)).toList ++ rest.map (q_cv bs) := by
      cases r1 <;> simp
    rw [e9] at K
    exact K
  have hstk : st.map (q_cv bs) = (as.map (q_cv bs)).reverse ++ rest.map (q_cv bs) := by
    conv => lhs; rw [hst]
    simp [List.map_reverse]
  have hasl : as.length = q_na M3 := by
    rw [e2, List.length_reverse, List.length_take]
    omega
  unfold q_cnum at hk
  split at hk
  · -- invokevirtual
    rename_i k2
    cases hk
    simp only [q_ok4] at hok
    split at hok
    rotate_left
    · cases hok
    rename_i x
    rw [hM2] at hok
    simp only [decide_eq_true_eq] at hok
    obtain ⟨rfl, hk0, hlink⟩ := hok
    rw [hk0] at hkind
    simp only [decide_eq_true_eq] at hkind
    simp only [q_rcv, hk0] at hrc
    have hna : q_na M3 = q_mN M3 + 1 := by simp [q_na, hk0]
    rw [← e2] at hrc
    generalize hasc : as = as2 at hrc
    split at hrc
    rotate_left
    · cases hrc
    rename_i a As
    split at hrc
    rotate_left
    · cases hrc
    rename_i ci fs hma
    simp only [decide_eq_true_eq, Option.map_eq_some_iff] at hrc
    obtain ⟨zc, hzc, hzn⟩ := hrc
    have hrecv := va_recv hK hw hzc (q_cw_get (bs := bs) (tc := tc) hma)
    rw [hzn] at hrecv
    have hcb2 := callB_of (R := R) (rm := ({ frames := q_mF M3, cells := q1.length - q.length, slots := q_sl q1 - q_sl q, locals := q_mO M3 } : Room)) (mc := q1.length - q.length) (ms := q_sl q1 - q_sl q) (q_mN M3) hts (q_good hokM) rfl rfl rfl (hts _ (q_T_at hinit rfl)) (hts _ (q_T_at hlink rfl)) hnm ⟨hRf ▸ hfr, hRl ▸ hlo⟩
    refine q_callW (r1 := r1) (q1 := q1) (va_runV (As := As.map (q_cv bs)) (b := bs.1 + a) (rest := rest.map (q_cv bs)) ⟨hx, hb, hml, hown, hts⟩ hMet ⟨hcb2, hts _ (q_T_at hkind.1 rfl), hts _ (q_T_at hkind.2 rfl)⟩ ⟨q_blind, hrecv, fun U hU hW => by have := hPre U hU hW; rw [hasc] at this; rw [hasc]; exact this⟩ rfl ?_ hl.1 ?_ hroom hd hfit) hS (fun H1 locs1 a1 a2 => goOn H1 locs1 a1 a2 rfl)
    · have := hasl
      rw [hasc, hna] at this
      simpa using this
    · show st.map (q_cv bs) = _
      rw [hstk, hasc]
      simp [q_cv]
  · -- invokestatic
    rename_i k2
    cases hk
    simp only [q_ok4] at hok
    split at hok
    rotate_left
    · cases hok
    rename_i x
    rw [hM2] at hok
    simp only [decide_eq_true_eq] at hok
    obtain ⟨rfl, hk0, hlink⟩ := hok
    rw [hk0] at hkind
    simp only [decide_eq_true_eq] at hkind
    have hna : q_na M3 = q_mN M3 := by simp [q_na, hk0]
    unfold q_lnk at hlink
    split at hlink
    · simp only [decide_eq_true_eq] at hlink
      have hcb2 := callB_of (R := R) (rm := ({ frames := q_mF M3, cells := q1.length - q.length, slots := q_sl q1 - q_sl q, locals := q_mO M3 } : Room)) (mc := q1.length - q.length) (ms := q_sl q1 - q_sl q) (q_mN M3) hts (q_good hokM) rfl rfl rfl (hts _ (q_T_at hinit rfl)) (hts _ (q_T_at hlink rfl)) hnm ⟨hRf ▸ hfr, hRl ▸ hlo⟩
      refine q_callW (r1 := r1) (q1 := q1) (va_runS (As := as.map (q_cv bs)) (rest := rest.map (q_cv bs)) ⟨hx, hb, hml, hown, hts⟩ hMet ⟨hcb2, hts _ (q_T_at hkind rfl)⟩ ⟨q_blind, hPre⟩ rfl ?_ hl.1 ?_ hroom hd hfit) hS (fun H1 locs1 a1 a2 => goOn H1 locs1 a1 a2 rfl)
      · rw [List.length_map, hasl, hna]
      · exact hstk
    · split at hlink
      rotate_left
      · cases hlink
      rename_i z hz9
      simp only [decide_eq_true_eq] at hlink
      obtain ⟨z1, z2, z3⟩ := hlink
      have hnw := hN.1 z (List.mem_of_getElem? hz9)
      rw [z1, z2, z3] at hnw
      have hcb2 := va_cnB (R := R) (rm := ({ frames := q_mF M3, cells := q1.length - q.length, slots := q_sl q1 - q_sl q, locals := q_mO M3 } : Room)) (mc := q1.length - q.length) (ms := q_sl q1 - q_sl q) (q_mN M3) hts (q_good hokM) rfl rfl rfl hnw (hts _ (q_T_at hinit rfl)) hnm ⟨hRf ▸ hfr, hRl ▸ hlo⟩
      refine q_callW (r1 := r1) (q1 := q1) (va_runSN (As := as.map (q_cv bs)) (rest := rest.map (q_cv bs)) ⟨hx, hb, hml, hown, hts⟩ hMet ⟨hcb2, hts _ (q_T_at hkind rfl), trivial⟩ ⟨q_blind, hPre⟩ rfl ?_ hl.1 ?_ hroom hd hfit) hS (fun H1 locs1 a1 a2 => goOn H1 locs1 a1 a2 rfl)
      · rw [List.length_map, hasl, hna]
      · exact hstk
  · -- invokespecial
    rename_i k2
    cases hk
    simp only [q_ok4] at hok
    split at hok
    rotate_left
    · cases hok
    rename_i x
    rw [hM2] at hok
    simp only [decide_eq_true_eq] at hok
    obtain ⟨rfl, hk0, hlink⟩ := hok
    rw [hk0] at hkind
    simp only [decide_eq_true_eq] at hkind
    obtain ⟨hki, hkn, hkr⟩ := hkind
    simp only [q_rcv, hk0] at hrc
    have hna : q_na M3 = q_mN M3 + 1 := by simp [q_na, hk0]
    rw [← e2] at hrc
    generalize hasc : as = as2 at hrc
    split at hrc
    rotate_left
    · cases hrc
    rename_i a As
    have hlenA : (As.map (q_cv bs)).length = q_mN M3 := by
      have := hasl
      rw [hasc, hna] at this
      simpa using this
    have hstk2 : (F0 m pc ls (st.map (q_cv bs))).stack = (As.map (q_cv bs)).reverse ++ .ref (bs.1 + a) :: rest.map (q_cv bs) := by
      show st.map (q_cv bs) = _
      rw [hstk, hasc]
      simp [q_cv]
    have hPre2 : PreS s H (q_Pc G D bs tc as q) (.ref (bs.1 + a) :: As.map (q_cv bs)) := ⟨q_blind, fun U hU hW => by have := hPre U hU hW; rw [hasc] at this; rw [hasc]; exact this⟩
    unfold q_lnk at hlink
    split at hlink
    · simp only [decide_eq_true_eq] at hlink
      have hcb2 := callB_of (R := R) (rm := ({ frames := q_mF M3, cells := q1.length - q.length, slots := q_sl q1 - q_sl q, locals := q_mO M3 } : Room)) (mc := q1.length - q.length) (ms := q_sl q1 - q_sl q) (q_mN M3) hts (q_good hokM) rfl rfl rfl (hts _ (q_T_at hinit rfl)) (hts _ (q_T_at hlink rfl)) hnm ⟨hRf ▸ hfr, hRl ▸ hlo⟩
      rw [hkr] at hcb2
      exact q_callW (r1 := r1) (q1 := q1) (va_runI (As := As.map (q_cv bs)) (b := bs.1 + a) (rest := rest.map (q_cv bs)) ⟨hx, hb, hml, hown, hts⟩ hMet ⟨hcb2, hkn, hts _ (q_T_at hki rfl)⟩ hPre2 rfl hlenA hl.1 hstk2 hroom hd hfit) hS (fun H1 locs1 a1 a2 => goOn H1 locs1 a1 a2 rfl)
    · split at hlink
      rotate_left
      · cases hlink
      rename_i z hz9
      simp only [decide_eq_true_eq] at hlink
      obtain ⟨z1, z2, z3⟩ := hlink
      have hnw := hN.1 z (List.mem_of_getElem? hz9)
      rw [z1, z2, z3] at hnw
      have hcb2 := va_cnB (R := R) (rm := ({ frames := q_mF M3, cells := q1.length - q.length, slots := q_sl q1 - q_sl q, locals := q_mO M3 } : Room)) (mc := q1.length - q.length) (ms := q_sl q1 - q_sl q) (q_mN M3) hts (q_good hokM) rfl rfl rfl hnw (hts _ (q_T_at hinit rfl)) hnm ⟨hRf ▸ hfr, hRl ▸ hlo⟩
      rw [hkr] at hcb2
      exact q_callW (r1 := r1) (q1 := q1) (va_runIN (As := As.map (q_cv bs)) (b := bs.1 + a) (rest := rest.map (q_cv bs)) ⟨hx, hb, hml, hown, hts⟩ hMet ⟨hcb2, hkn, hts _ (q_T_at hki rfl)⟩ hPre2 rfl hlenA hl.1 hstk2 hroom hd hfit) hS (fun H1 locs1 a1 a2 => goOn H1 locs1 a1 a2 rfl)
  · cases hk
end QINV

/-! THE LAW's OWN WALK: as a method's, but for the script, which lies outside -/
theorem q_start {G : q_G} (hV : q_GV G) {args : Array Value} {s : State} (hts : ∀ w ∈ q_T G, w.before args s = true)
    (hty : ∀ (t : Nat) (ty : FieldType), (q_gA G)[t]? = some ty → ((∀ C, ty ≠ .object C) ∧ Cond.arrayClass ty ∈ q_T G) ∨ ∃ C, ty = .object C ∧ va_AO C s) : ∃ (D : va_G) (tc : Nat → ClassId), va_K D (q_gC G) (q_tyl G tc) s := by
  have h1 : ∀ ci : Nat, ∃ (cC : ClassId) (iS : Nat → Nat), ∀ q : vw_C, (q_gC G)[ci]? = some q → u_Kn s q.1 q.2.1 q.2.2 cC iS := by
    intro ci
    cases hc : (q_gC G)[ci]? with
    | none => exact ⟨0, fun _ => 0, fun q h => by cases h⟩
    | some z =>
      obtain ⟨C, T, N⟩ := z
      obtain ⟨cC, iS, h⟩ := u_known (C := C) (T := T) (N := N) (n := N) hts (hV.1 ci C T N hc).1 (hts _ (hV.1 ci C T N hc).2.2.2.1)
      exact ⟨cC, iS, fun q hq => by cases hq; exact h⟩
  have h2 : ∀ t : Nat, ∃ cA : ClassId, ∀ ty : FieldType, (q_gA G)[t]? = some ty → ArrOfT s cA ty ∧ va_RA s cA ty := by
    intro t
    cases ht : (q_gA G)[t]? with
    | none => exact ⟨0, fun q h => by cases h⟩
    | some ty =>
      rcases hty t ty ht with ⟨hno, hw⟩ | ⟨C, rfl, hao⟩
      · obtain ⟨cA, kA, comp, e1, e2, e3⟩ := Cond.arrayClass_spec (hts _ hw)
        refine ⟨cA, fun ty2 h => ?_⟩
        cases h
        refine ⟨fun n z => ⟨fun k h => (by cases h), kA, e2, comp, e3⟩, ?_⟩
        cases ty with
        | object C => exact absurd rfl (hno C)
        | _ => exact e1
      · obtain ⟨comp, cA, kA, e1, -, e2, e3, e4⟩ := Cond.arrayOver_spec (va_AO.use (A := args) hao)
        refine ⟨cA, fun ty2 h => ?_⟩
        cases h
        exact ⟨fun n z => ⟨fun k h => (by cases h), kA, e2, comp, e3⟩, kA, comp, e2, e3, e1, e4⟩
  refine ⟨(fun ci => Classical.choose (h1 ci), fun ci => Classical.choose (Classical.choose_spec (h1 ci))), fun t => Classical.choose (h2 t), ?_, ?_⟩
  · intro ci q hq
    exact Classical.choose_spec (Classical.choose_spec (h1 ci)) q hq
  · intro k q hk
    simp only [q_tyl, List.getElem?_mapIdx, Option.map_eq_some_iff] at hk
    obtain ⟨ty, h3, rfl⟩ := hk
    exact Classical.choose_spec (h2 k) ty h3
theorem q_lmono {G : q_G} {b L : Nat} {xs : Nat → Int32} {M : q_MI} : ∀ (n pc : Nat) (lv : q_L) (st : List Value) (q : q_M) (v : Int32) (qF : q_M), q_lrun G b L xs M n pc lv st q = some (v, qF) → q.length ≤ qF.length ∧ q_sl q ≤ q_sl qF
  | 0, _, _, _, _, _, _, h => by simp [q_lrun] at h
  | n + 1, pc, lv, st, q, v, qF, h => by
    unfold q_lrun at h
    split at h
    · cases h
    · split at h
      · split at h
        · exact q_lmono n _ _ _ _ _ _ h
        · cases h
      · split at h
        · exact q_lmono n _ _ _ _ _ _ h
        · cases h
      · split at h
        · have h2 := q_lmono n _ _ _ _ _ _ h
          rw [q_sl_push, List.length_append] at h2
          exact ⟨by omega, by omega⟩
        · cases h
      · split at h
        · split at h
          · split at h
            · rename_i h1
              have h2 := q_lmono n _ _ _ _ _ _ h
              have h3 := q_mono n _ _ _ _ _ _ _ h1
              exact ⟨by omega, by omega⟩
            · cases h
          · cases h
        · split at h
          · cases h
            exact ⟨Nat.le_refl _, Nat.le_refl _⟩
          · cases h
      · split at h
        · exact q_lmono n _ _ _ _ _ _ h
        · cases h
section QLAW
variable {p : Program} {l : Launch} {e : Env} {R : Room} {s : State} {m : MethodId} {args : Array Value} {below : List Frame} {meth : Method} {c : Code} {Q : State → Prop}
variable {G : q_G} {D : va_G} {bs : q_B} {tc : Nat → ClassId}
theorem q_lmain (hV : q_GV G) (hM : ∀ M ∈ q_gM G, q_okM G M) {M : q_MI} (hC : q_okC G M = true) {L : Nat} {xs : Nat → Int32} (hx : p.tables.exec = Jvm.exec) (hb : c.code = q_mB M) (hml : c.maxLocals = q_mL M) (hown : s.vm.findClass (q_mY M).cls = some m.cls) (hts : ∀ w ∈ q_T G, w.before args s = true) (hK : va_K D (q_gC G) (q_tyl G tc) s) (hN : q_Nst G s) (hSh : q_Sh G bs s s.heap)
    (hsz : s.heap.size = bs.1) (hX : va_X (bs.2 0) L xs s s.heap) (hbl : bs.2 0 < s.heap.size) (hRf : q_mF M = R.frames) (hRl : q_mO M = R.locals) {qF : q_M} {v : Int32} (hRc : qF.length ≤ R.cells) (hRs : q_sl qF ≤ R.slots)
    (fin : ∀ (pc : Nat) (H : Heap) (ls : Array Slot) (locs : List Loc), decode (q_mB M) pc = .ok (.ireturn, 1) → va_S (fun z => bs.1 ≤ z) s.heap H locs → W p l e R s m args below meth c H locs qF.length (q_sl qF) Q (F0 m pc ls [.int v])) :
    ∀ (n pc : Nat) (lv : q_L) (st : List Value) (q : q_M), q_lrun G 0 L xs M n pc lv st q = some (v, qF) → ∀ {H : Heap} {locs : List Loc} {ls : Array Slot}, q_Wd D (q_gC G) bs tc q H → va_S (fun z => bs.1 ≤ z) s.heap H locs → lv_has ls (q_mL M) (q_cl bs lv) →
      W p l e R s m args below meth c H locs q.length (q_sl q) Q (F0 m pc ls (st.map (q_cv bs))) := by
  intro n
  induction n with
  | zero => intro pc lv st q h; simp [q_lrun] at h
  | succ n ih =>
    intro pc lv st q h H locs ls hw hS hl
    have hsz0 : s.heap.size = bs.1 + ([] : q_M).length := by simpa using hsz
    unfold q_lrun at h
    split at h
    · cases h
    rename_i I pc0 raw len i pos hfd
    obtain ⟨hI, hpc⟩ := q_fd_mem hfd
    simp only at hpc
    subst hpc
    have hok := List.all_eq_true.mp hC _ hI
    simp only [Bool.and_eq_true, decide_eq_true_eq, q_okI] at hok
    obtain ⟨hd, hok⟩ := hok
    split at h
    · rename_i hg
      rw [hg] at hok
      split at h
      rotate_left
      · cases h
      rename_i pc1 l1 st1 hp
      exact q_pureW hx hb hd hok hl hp (fun ls1 hl1 => ih _ _ _ _ h hw hS hl1)
    · rename_i hg
      rw [hg] at hok
      split at h
      rotate_left
      · cases h
      rename_i st1 hp
      have hbA : ¬ (fun z => bs.1 ≤ z) (bs.2 0) := by simp only; omega
      unfold q_scr at hp
      split at hp
      · simp only [q_ok2, decide_eq_true_eq] at hok
        obtain ⟨rfl, rfl, -⟩ := hok
        split at hp
        rotate_left
        · cases hp
        rename_i j a r
        split at hp
        rotate_left
        · cases hp
        rename_i hc
        obtain ⟨rfl, hin⟩ := hc
        cases hp
        exact va_sld (A := fun z => bs.1 ≤ z) hx hb hX hbl hbA hS (q_in_vp hin) hd (ih _ _ _ _ h hw hS hl)
      · simp only [q_ok2, decide_eq_true_eq] at hok
        obtain ⟨rfl, rfl⟩ := hok
        split at hp
        rotate_left
        · cases hp
        rename_i a r
        split at hp
        rotate_left
        · cases hp
        rename_i hc
        subst hc
        cases hp
        exact va_slen (A := fun z => bs.1 ≤ z) hx hb hX hbl hbA hS hd (ih _ _ _ _ h hw hS hl)
      · cases hp
    · rename_i hg
      rw [hg] at hok
      split at h
      rotate_left
      · cases h
      rename_i st1 x hp
      have hm2 := q_lmono n _ _ _ _ _ _ h
      rw [q_sl_push, List.length_append] at hm2
      have hm3 : q.length + 1 ≤ qF.length := hm2.1
      refine q_sized (fun hup => ?_)
      have hlow := q_low hw hS hsz0
      have hzz : H.size = bs.1 + q.length := by omega
      refine q_newW hx hb hV hown hts hK hN.2 hd hok hw hS hzz hp (by omega) (by omega) (fun H1 hw1 hS1 => ?_)
      have K := ih _ _ _ _ h hw1 hS1 hl
      rw [q_sl_push, List.length_append] at K
      exact K
    · rename_i hg
      rw [hg] at hok
      split at h
      · rename_i k hk
        split at h
        rotate_left
        · cases h
        rename_i M1 as rest hcall
        split at h
        rotate_left
        · cases h
        rename_i r1 q1 hrun
        have hMs : M1 ∈ q_gM G := by
          unfold q_call at hcall
          split at hcall
          · cases hcall
          rename_i M3 hM3
          split at hcall
          · cases hcall
            exact List.mem_of_getElem? hM3
          · cases hcall
        have hokM := hM M1 hMs
        have hm1 := q_mono n _ _ _ _ _ _ _ hrun
        have hm2 := q_lmono n _ _ _ _ _ _ h
        refine q_sized (fun hup => ?_)
        have hlow := q_low hw hS hsz0
        have hzz : H.size = bs.1 + q.length := by omega
        refine q_invW hx hb hml hown hts hK hN hSh hokM hRf hRl hd hok hk hcall (fun hcas => q_metI hokM hm1 hcas (fun C X => q_main hV hM l D bs tc n M1 hMs _ _ _ _ _ _ hrun C X)) hw hS hl hzz ⟨by omega, by omega⟩ (fun H1 locs1 hw1 hS1 => ?_)
        have K := ih _ _ _ _ h hw1 hS1 hl
        rw [show q.length + (q1.length - q.length) = q1.length by omega, show q_sl q + (q_sl q1 - q_sl q) = q_sl q1 by omega]
        exact K
      · split at h
        rotate_left
        · cases h
        have e0 := Option.some.inj h
        have e1 := congrArg Prod.fst e0
        have e2 : q = qF := congrArg Prod.snd e0
        simp only at e1
        subst e1
        subst e2
        simp only [q_ok4, decide_eq_true_eq] at hok
        obtain ⟨rfl, rfl⟩ := hok
        exact fin _ H ls locs hd hS
    · rename_i hg0 hg1 hg2 hg3
      split at hok
      · exact absurd (by assumption) hg0
      · exact absurd (by assumption) hg1
      · exact absurd (by assumption) hg2
      · exact absurd (by assumption) hg3
      split at h
      rotate_left
      · cases h
      rename_i st1 hp
      have K := ih _ _ _ _ h hw hS hl
      unfold q_lk at hp
      split at hp
      · cases hp
        simp only [q_ok5] at hok
        split at hok
        · simp only [decide_eq_true_eq] at hok
          obtain ⟨rfl, hlk⟩ := hok
          exact lv_ldc hx hb hown (hts _ (q_T_at hlk rfl)) hd K
        · simp only [decide_eq_true_eq] at hok
          obtain ⟨rfl, hlk⟩ := hok
          exact lv_ldcw hx hb hown (hts _ (q_T_at hlk rfl)) hd K
        · cases hok
      · cases hp
        simp only [q_ok5] at hok
        split at hok
        · simp only [decide_eq_true_eq] at hok
          obtain ⟨rfl, hlk⟩ := hok
          exact lv_ldc2 hx hb hown (hts _ (q_T_at hlk rfl)) hd K
        · cases hok
      · cases hp
        simp only [q_ok5] at hok
        split at hok
        · split at hok
          rotate_left
          · cases hok
          rename_i x z hz
          simp only [decide_eq_true_eq] at hok
          obtain ⟨rfl, ho1, ho2⟩ := hok
          obtain ⟨w, hSh⟩ := hSh
          have hR9 := (hSh _ z hz).1
          rw [ho1, ho2] at hR9
          exact va_ldcS hx hb hown hR9 hd K
        · cases hok
      · cases hp
end QLAW

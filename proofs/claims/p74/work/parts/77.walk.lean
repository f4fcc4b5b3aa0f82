/-- what the pure machine does, the machine does -/
theorem q_main {G : q_G} (hV : q_GV G) (hM : ∀ M ∈ q_gM G, q_okM G M) (l : Launch) (D : va_G) (bs : q_B) (tc : Nat → ClassId) : ∀ (n : Nat) (M : q_MI), M ∈ q_gM G → ∀ (pc : Nat) (lv : q_L) (st : List Value) (q : q_M) (r : Option Value) (qF : q_M), q_run G n M pc lv st q = some (r, qF) →
    ∀ {p : Program} {e : Env} {R : Room} {s : State} {m : MethodId} {args : Array Value} {below : List Frame} {meth : Method} {c : Code} {H : Heap} {locs : List Loc} {cells slots : Nat} {ls : Array Slot} {q0 : q_M}, q_Cx G D bs tc M q0 qF p R s m args meth c → q_Dx G D bs tc M q0 q lv s H locs cells slots ls →
      W p l e R s m args below meth c H locs cells slots (MQ below (q_Qc G D bs tc r qF) args s (qF.length - q0.length) (q_sl qF - q_sl q0) (fun z => bs.1 ≤ z)) (F0 m pc ls (st.map (q_cv bs))) := by
  intro n
  induction n with
  | zero => intro M _ pc lv st q r qF h; simp [q_run] at h
  | succ n ih =>
    intro M hMm pc lv st q r qF h p e R s m args below meth c H locs cells slots ls q0 C X
    have hmono := q_mono (n + 1) M pc lv st q r qF h
    have C0 := C
    obtain ⟨hx, hb, hml, hown, hts, hK, hN, hSh, hr, hlocks, hini, hsz, hR⟩ := C
    obtain ⟨hw, hS, hl, hcel, hslo, hq0, hq0s⟩ := X
    subst hR
    have hmls : c.maxLocals = ls.size := hml.trans hl.1.symm
    unfold q_run at h
    split at h
    · cases h
    rename_i I pc0 raw len i pos hfd
    obtain ⟨hI, hpc⟩ := q_fd_mem hfd
    simp only at hpc
    subst hpc
    have hok := List.all_eq_true.mp (hM M hMm).2 _ hI
    simp only [Bool.and_eq_true, decide_eq_true_eq, q_okI] at hok
    obtain ⟨hd, hok⟩ := hok
    split at h
    · -- pure
      rename_i hg
      rw [hg] at hok
      split at h
      rotate_left
      · cases h
      rename_i pc1 l1 st1 hp
      exact q_pureW hx hb hd hok hl hp (fun ls1 hl1 => ih M hMm _ _ _ _ _ _ h C0 ⟨hw, hS, hl1, hcel, hslo, hq0, hq0s⟩)
    · -- memory
      rename_i hg
      rw [hg] at hok
      split at h
      rotate_left
      · cases h
      rename_i st1 q1 hp
      have hz := q_mem_sz hp
      exact q_memW hx hb hmls hV hown hts hK hini hSh (by show cells ≤ qF.length - q0.length; omega) (by show slots ≤ q_sl qF - q_sl q0; omega) hd hok hw hS hp (fun H1 locs1 hw1 hS1 => ih M hMm _ _ _ _ _ _ h C0 ⟨hw1, hS1, hl, by rw [hz.1]; exact hcel, by rw [hz.2]; exact hslo, by rw [hz.1]; exact hq0, by rw [hz.2]; exact hq0s⟩)
    · -- a new cell
      rename_i hg
      rw [hg] at hok
      split at h
      rotate_left
      · cases h
      rename_i st1 x hp
      have hm2 := q_mono n _ _ _ _ _ _ _ h
      rw [q_sl_push, List.length_append] at hm2
      have hm3 : q.length + 1 ≤ qF.length := hm2.1
      refine q_sized (fun hup => ?_)
      have hlow := q_low hw hS hsz
      have hzz : H.size = bs.1 + q.length := by omega
      refine q_newW hx hb hV hown hts hK hN.2 hd hok hw hS hzz hp (by show cells + 1 ≤ qF.length - q0.length; omega) (by show slots + q_sz x ≤ q_sl qF - q_sl q0; omega) (fun H1 hw1 hS1 => ?_)
      exact ih M hMm _ _ _ _ _ _ h C0 ⟨hw1, hS1, hl, by rw [List.length_append]; show cells + 1 = q.length + 1 - q0.length; omega, by rw [q_sl_push]; omega, by rw [List.length_append]; omega, by rw [q_sl_push]; omega⟩
    · -- call or return
      rename_i hg
      rw [hg] at hok
      split at h
      · -- call
        rename_i k hk
        split at h
        rotate_left
        · cases h
        rename_i M1 as rest hcall
        split at h
        rotate_left
        · cases h
        rename_i r1 q1 hrun
        have hMs : M1 ∈ q_gM G := by
          unfold q_call at hcall
          split at hcall
          · cases hcall
          rename_i M3 hM3
          split at hcall
          · cases hcall
            exact List.mem_of_getElem? hM3
          · cases hcall
        have hokM := hM M1 hMs
        have hm1 := q_mono n _ _ _ _ _ _ _ hrun
        have hm2 := q_mono n _ _ _ _ _ _ _ h
        refine q_sized (fun hup => ?_)
        have hlow := q_low hw hS hsz
        have hzz : H.size = bs.1 + q.length := by omega
        exact q_invW hx hb hml hown hts hK hN hSh hokM rfl rfl hd hok hk hcall (fun hcas => q_metI hokM hm1 hcas (fun C X => ih M1 hMs _ _ _ _ _ _ hrun C X)) hw hS hl hzz ⟨by show cells + _ ≤ qF.length - q0.length; omega, by show slots + _ ≤ q_sl qF - q_sl q0; omega⟩ (fun H1 locs1 hw1 hS1 => ih M hMm _ _ _ _ _ _ h C0 ⟨hw1, hS1, hl, by omega, by omega, by omega, by omega⟩)
      · -- return
        split at h
        rotate_left
        · cases h
        rename_i r1 hp
        have e0 := Option.some.inj h
        have e1 : r1 = r := congrArg Prod.fst e0
        have e2 : q = qF := congrArg Prod.snd e0
        subst e1
        subst e2
        subst hcel
        subst hslo
        unfold q_retn at hp
        split at hp
        · simp only [q_ok4, decide_eq_true_eq] at hok
          obtain ⟨rfl, rfl⟩ := hok
          split at hp
          rotate_left
          · cases hp
          split at hp
          rotate_left
          · cases hp
          rename_i v _ ty hty
          split at hp
          rotate_left
          · cases hp
          rename_i hnar
          cases hp
          exact W.zret hx hb (hr.trans hty) hnar (fun t ht hW => ⟨rfl, by rw [ht]; exact hw, hS.F ht⟩) hS.2.2 hd hlocks
        · simp only [q_ok4, decide_eq_true_eq] at hok
          obtain ⟨rfl, rfl⟩ := hok
          split at hp
          rotate_left
          · cases hp
          split at hp
          rotate_left
          · cases hp
          rename_i hty
          cases hp
          exact W.lret hx hb (hr.trans hty) (fun t ht hW => ⟨rfl, by rw [ht]; exact hw, hS.F ht⟩) hS.2.2 hd hlocks
        · simp only [q_ok4, decide_eq_true_eq] at hok
          obtain ⟨rfl, rfl⟩ := hok
          split at hp
          rotate_left
          · cases hp
          split at hp
          rotate_left
          · cases hp
          rename_i hty
          cases hp
          exact W.vret hx hb (hr.trans hty) (fun t ht hW => ⟨rfl, by rw [ht]; exact hw, hS.F ht⟩) hS.2.2 hd hlocks
        · cases hp
    · -- a constant
      rename_i hg0 hg1 hg2 hg3
      split at hok
      · exact absurd (by assumption) hg0
      · exact absurd (by assumption) hg1
      · exact absurd (by assumption) hg2
      · exact absurd (by assumption) hg3
      split at h
      rotate_left
      · cases h
      rename_i st1 hp
      have K := ih M hMm _ _ _ _ _ _ h C0 (below := below) (e := e) (ls := ls) (H := H) (locs := locs) (cells := cells) (slots := slots) ⟨hw, hS, hl, hcel, hslo, hq0, hq0s⟩
      unfold q_lk at hp
      split at hp
      · cases hp
        simp only [q_ok5] at hok
        split at hok
        · simp only [decide_eq_true_eq] at hok
          obtain ⟨rfl, hlk⟩ := hok
          exact lv_ldc hx hb hown (hts _ (q_T_at hlk rfl)) hd K
        · simp only [decide_eq_true_eq] at hok
          obtain ⟨rfl, hlk⟩ := hok
          exact lv_ldcw hx hb hown (hts _ (q_T_at hlk rfl)) hd K
        · cases hok
      · cases hp
        simp only [q_ok5] at hok
        split at hok
        · simp only [decide_eq_true_eq] at hok
          obtain ⟨rfl, hlk⟩ := hok
          exact lv_ldc2 hx hb hown (hts _ (q_T_at hlk rfl)) hd K
        · cases hok
      · cases hp
        simp only [q_ok5] at hok
        split at hok
        · split at hok
          rotate_left
          · cases hok
          rename_i x z hz
          simp only [decide_eq_true_eq] at hok
          obtain ⟨rfl, ho1, ho2⟩ := hok
          obtain ⟨w, hSh⟩ := hSh
          have hR9 := (hSh _ z hz).1
          rw [ho1, ho2] at hR9
          exact va_ldcS hx hb hown hR9 hd K
        · cases hok
      · cases hp

/-- the resolved instruction is what the bytes say (no links) -/
def q_ok1 (raw : Instr) (len : Nat) (i : Instr) : Bool := match i with
  | .iconst n => (match raw with | .iconst a => decide (a = n ∧ len = 1) | .bipush a => decide (a = n ∧ len = 2 ∧ (Int8.ofInt n).toInt32 = Int32.ofInt n) | .sipush a => decide (a = n ∧ len = 3 ∧ (Int16.ofInt n).toInt32 = Int32.ofInt n) | _ => false)
  | .goto_w n => (match raw with | .lconst a => decide (((a : Nat) : Int) = n ∧ len = 1) | _ => false)
  | .iload k => (match raw with | .iload a => decide (a = k ∧ len = 2) | .iload_n a => decide ((a : Nat) = k ∧ len = 1) | _ => false)
  | .lload k => (match raw with | .lload a => decide (a = k ∧ len = 2) | .lload_n a => decide ((a : Nat) = k ∧ len = 1) | _ => false)
  | .aload k => (match raw with | .aload a => decide (a = k ∧ len = 2) | .aload_n a => decide ((a : Nat) = k ∧ len = 1) | _ => false)
  | .istore k => (match raw with | .istore a => decide (a = k ∧ len = 2) | .istore_n a => decide ((a : Nat) = k ∧ len = 1) | _ => false)
  | .astore k => (match raw with | .astore a => decide (a = k ∧ len = 2) | .astore_n a => decide ((a : Nat) = k ∧ len = 1) | _ => false)
  | .lstore k => (match raw with | .lstore a => decide (a = k ∧ len = 2) | .lstore_n a => decide ((a : Nat) = k ∧ len = 1) | _ => false)
  | .iinc _ _ => decide (raw = i ∧ len = 3)
  | .iadd => decide (raw = i ∧ len = 1)
  | .isub => decide (raw = i ∧ len = 1)
  | .imul => decide (raw = i ∧ len = 1)
  | .iand => decide (raw = i ∧ len = 1)
  | .ior => decide (raw = i ∧ len = 1)
  | .ixor => decide (raw = i ∧ len = 1)
  | .ishl => decide (raw = i ∧ len = 1)
  | .ishr => decide (raw = i ∧ len = 1)
  | .iushr => decide (raw = i ∧ len = 1)
  | .ladd => decide (raw = i ∧ len = 1)
  | .lsub => decide (raw = i ∧ len = 1)
  | .lmul => decide (raw = i ∧ len = 1)
  | .land => decide (raw = i ∧ len = 1)
  | .lor => decide (raw = i ∧ len = 1)
  | .lxor => decide (raw = i ∧ len = 1)
  | .idiv => decide (raw = i ∧ len = 1)
  | .irem => decide (raw = i ∧ len = 1)
  | .ldiv => decide (raw = i ∧ len = 1)
  | .lrem => decide (raw = i ∧ len = 1)
  | .lshl => decide (raw = i ∧ len = 1)
  | .lshr => decide (raw = i ∧ len = 1)
  | .lushr => decide (raw = i ∧ len = 1)
  | .i2l => decide (raw = i ∧ len = 1)
  | .l2i => decide (raw = i ∧ len = 1)
  | .i2b => decide (raw = i ∧ len = 1)
  | .i2s => decide (raw = i ∧ len = 1)
  | .i2c => decide (raw = i ∧ len = 1)
  | .ineg => decide (raw = i ∧ len = 1)
  | .lneg => decide (raw = i ∧ len = 1)
  | .lcmp => decide (raw = i ∧ len = 1)
  | .dup => decide (raw = i ∧ len = 1)
  | .pop => decide (raw = i ∧ len = 1)
  | .dup2 => decide (raw = i ∧ len = 1)
  | .pop2 => decide (raw = i ∧ len = 1)
  | .ifCond _ _ => decide (raw = i ∧ len = 3)
  | .if_icmp _ _ => decide (raw = i ∧ len = 3)
  | .goto _ => decide (raw = i ∧ len = 3)
  | .tableswitch _ _ _ _ => decide (raw = i)
  | .lookupswitch _ _ => decide (raw = i)
  | _ => false
section QPURE
variable {p : Program} {l : Launch} {e : Env} {R : Room} {s : State} {m : MethodId} {args : Array Value} {below : List Frame} {meth : Method} {c : Code} {H : Heap} {locs : List Loc} {cells slots : Nat} {Q : State → Prop}
variable {cc : ByteArray} {pc : Nat} {ls : Array Slot}
theorem q_toW (l' : q_L) {off : Int} {lv lv' : q_L} {st st' : List Value} {pc' : Nat} (h : q_to pc off lv st = some (pc', lv', st')) : (pc : Int) + off = (pc' : Int) ∧ lv' = lv ∧ st' = st := by
  unfold q_to at h
  split at h
  · cases h
    exact ⟨by omega, rfl, rfl⟩
  · cases h
theorem q_brW {P : Prop} [Decidable P] {bs : q_B} {off : Int} {lv lv' : q_L} {r st' : List Value} {pc' : Nat} {G : Prop} (h : q_br pc 3 off (decide P) lv r = some (pc', lv', st'))
    (row : ∀ tgt : Nat, (pc : Int) + off = (tgt : Int) → (P → W p l e R s m args below meth c H locs cells slots Q (F0 m tgt ls (r.map (q_cv bs)))) → (¬ P → W p l e R s m args below meth c H locs cells slots Q (F0 m (pc + 3) ls (r.map (q_cv bs)))) → G)
    (kk : lv' = lv → W p l e R s m args below meth c H locs cells slots Q (F0 m pc' ls (st'.map (q_cv bs)))) : G := by
  unfold q_br at h
  by_cases h0 : 0 ≤ (pc : Int) + off
  · rw [if_pos h0] at h
    have h1 := Option.some.inj h
    have e1 : pc' = (if decide P = true then ((pc : Int) + off).toNat else pc + 3) := (congrArg Prod.fst h1).symm
    have e2 : lv' = lv := (congrArg (fun z => z.2.1) h1).symm
    have e3 : st' = r := (congrArg (fun z => z.2.2) h1).symm
    have K := kk e2
    rw [e3] at K
    refine row ((pc : Int) + off).toNat (by omega) (fun hp => ?_) (fun hp => ?_)
    · rw [e1, if_pos (decide_eq_true hp)] at K
      exact K
    · rw [e1, if_neg (by simpa using hp)] at K
      exact K
  · rw [if_neg h0] at h
    cases h
theorem q_pureW (hx : p.tables.exec = Jvm.exec) (hb : c.code = cc) {bs : q_B} {nL len : Nat} {raw i : Instr} {lv lv' : q_L} {st st' : List Value} {pc' : Nat} (hd : decode cc pc = .ok (raw, len)) (ho : q_ok1 raw len i = true) (hl : lv_has ls nL (q_cl bs lv))
    (h : q_pure nL pc len i lv st = some (pc', lv', st'))
    (kk : ∀ ls' : Array Slot, lv_has ls' nL (q_cl bs lv') → W p l e R s m args below meth c H locs cells slots Q (F0 m pc' ls' (st'.map (q_cv bs)))) : W p l e R s m args below meth c H locs cells slots Q (F0 m pc ls (st.map (q_cv bs))) := by
  unfold q_pure at h
  split at h
  · -- iconst
    simp only [q_ok1] at ho
    cases h
    split at ho
    · simp only [decide_eq_true_eq] at ho; obtain ⟨rfl, rfl⟩ := ho
      exact lv_iconst hx hb hd rfl (kk ls hl)
    · simp only [decide_eq_true_eq] at ho; obtain ⟨rfl, rfl, ho⟩ := ho
      exact lv_bipush hx hb hd ho (kk ls hl)
    · simp only [decide_eq_true_eq] at ho; obtain ⟨rfl, rfl, ho⟩ := ho
      exact lv_sipush hx hb hd ho (kk ls hl)
    · cases ho
  · -- goto_w: a long
    simp only [q_ok1] at ho
    cases h
    split at ho
    · simp only [decide_eq_true_eq] at ho; obtain ⟨rfl, rfl⟩ := ho
      exact lv_lconst hx hb hd (by simp [Int64.ofInt_eq_ofNat]) (kk ls hl)
    · cases ho
  · -- iload
    simp only [q_ok1] at ho
    split at h
    · rename_i hg
      cases h
      have hg2 := q_lv hl hg
      split at ho
      · simp only [decide_eq_true_eq] at ho; obtain ⟨rfl, rfl⟩ := ho
        exact lv_iload hx hb hd hg2 (kk ls hl)
      · simp only [decide_eq_true_eq] at ho; obtain ⟨ho, rfl⟩ := ho
        exact lv_iload_n hx hb hd ho hg2 (kk ls hl)
      · cases ho
    · cases h
  · -- lload
    simp only [q_ok1] at ho
    split at h
    · rename_i hg
      cases h
      have hg2 := q_lv hl hg
      split at ho
      · simp only [decide_eq_true_eq] at ho; obtain ⟨rfl, rfl⟩ := ho
        exact lv_lload hx hb hd hg2 (kk ls hl)
      · simp only [decide_eq_true_eq] at ho; obtain ⟨ho, rfl⟩ := ho
        exact lv_lload_n hx hb hd ho hg2 (kk ls hl)
      · cases ho
    · cases h
  · -- aload
    simp only [q_ok1] at ho
    split at h
    · rename_i hg
      cases h
      have hg2 := q_lv hl hg
      split at ho
      · simp only [decide_eq_true_eq] at ho; obtain ⟨rfl, rfl⟩ := ho
        exact lv_aload hx hb hd hg2 (kk ls hl)
      · simp only [decide_eq_true_eq] at ho; obtain ⟨ho, rfl⟩ := ho
        exact lv_aload_n hx hb hd ho hg2 (kk ls hl)
      · cases ho
    · rename_i hg
      cases h
      have hg2 := q_lv hl hg
      split at ho
      · simp only [decide_eq_true_eq] at ho; obtain ⟨rfl, rfl⟩ := ho
        exact lv_aload hx hb hd hg2 (kk ls hl)
      · simp only [decide_eq_true_eq] at ho; obtain ⟨ho, rfl⟩ := ho
        exact lv_aload_n hx hb hd ho hg2 (kk ls hl)
      · cases ho
    · cases h
  · -- istore
    simp only [q_ok1] at ho
    split at h
    · split at h
      · rename_i hk
        cases h
        split at ho
        · simp only [decide_eq_true_eq] at ho; obtain ⟨rfl, rfl⟩ := ho
          exact lv_istore hx hb hd hl hk (q_cl_s1 bs lv _ (.int _)) (fun ls' h' => kk ls' h')
        · simp only [decide_eq_true_eq] at ho; obtain ⟨ho, rfl⟩ := ho
          exact lv_istore_n hx hb hd ho hl hk (q_cl_s1 bs lv _ (.int _)) (fun ls' h' => kk ls' h')
        · cases ho
      · cases h
    · cases h
  · -- astore
    simp only [q_ok1] at ho
    split at h
    · split at h
      · rename_i hk
        cases h
        split at ho
        · simp only [decide_eq_true_eq] at ho; obtain ⟨rfl, rfl⟩ := ho
          exact lv_astore hx hb hd hl hk (q_cl_s1 bs lv _ (.ref _)) (fun ls' h' => kk ls' h')
        · simp only [decide_eq_true_eq] at ho; obtain ⟨ho, rfl⟩ := ho
          exact lv_astore_n hx hb hd ho hl hk (q_cl_s1 bs lv _ (.ref _)) (fun ls' h' => kk ls' h')
        · cases ho
      · cases h
    · cases h
  · -- lstore
    simp only [q_ok1] at ho
    split at h
    · split at h
      · rename_i hk
        cases h
        split at ho
        · simp only [decide_eq_true_eq] at ho; obtain ⟨rfl, rfl⟩ := ho
          exact lv_lstore hx hb hd hl hk (q_cl_s2 bs lv _ (.long _)) (fun ls' h' => kk ls' h')
        · simp only [decide_eq_true_eq] at ho; obtain ⟨ho, rfl⟩ := ho
          exact lv_lstore_n hx hb hd ho hl hk (q_cl_s2 bs lv _ (.long _)) (fun ls' h' => kk ls' h')
        · cases ho
      · cases h
    · cases h
  · -- iinc
    simp only [q_ok1, decide_eq_true_eq] at ho
    obtain ⟨rfl, rfl⟩ := ho
    split at h
    · rename_i hg
      split at h
      · rename_i hk
        cases h
        obtain ⟨j, hj⟩ := q_lvx (bs := bs) hg
        exact lv_iinc hx hb hd hl hj rfl hk (q_cl_s1 bs lv _ (.int _)) (fun ls' h' => kk ls' h')
      · cases h
    · cases h
  · -- iadd
    simp only [q_ok1, decide_eq_true_eq] at ho
    obtain ⟨rfl, rfl⟩ := ho
    split at h
    · cases h
      exact lv_iadd hx hb hd (kk ls hl)
    · cases h
  · -- isub
    simp only [q_ok1, decide_eq_true_eq] at ho
    obtain ⟨rfl, rfl⟩ := ho
    split at h
    · cases h
      exact lv_isub hx hb hd (kk ls hl)
    · cases h
  · -- imul
    simp only [q_ok1, decide_eq_true_eq] at ho
    obtain ⟨rfl, rfl⟩ := ho
    split at h
    · cases h
      exact lv_imul hx hb hd (kk ls hl)
    · cases h
  · -- iand
    simp only [q_ok1, decide_eq_true_eq] at ho
    obtain ⟨rfl, rfl⟩ := ho
    split at h
    · cases h
      exact lv_iand hx hb hd (kk ls hl)
    · cases h
  · -- ior
    simp only [q_ok1, decide_eq_true_eq] at ho
    obtain ⟨rfl, rfl⟩ := ho
    split at h
    · cases h
      exact lv_ior hx hb hd (kk ls hl)
    · cases h
  · -- ixor
    simp only [q_ok1, decide_eq_true_eq] at ho
    obtain ⟨rfl, rfl⟩ := ho
    split at h
    · cases h
      exact lv_ixor hx hb hd (kk ls hl)
    · cases h
  · -- ishl
    simp only [q_ok1, decide_eq_true_eq] at ho
    obtain ⟨rfl, rfl⟩ := ho
    split at h
    · cases h
      exact lv_ishl hx hb hd (kk ls hl)
    · cases h
  · -- ishr
    simp only [q_ok1, decide_eq_true_eq] at ho
    obtain ⟨rfl, rfl⟩ := ho
    split at h
    · cases h
      exact lv_ishr hx hb hd (kk ls hl)
    · cases h
  · -- iushr
    simp only [q_ok1, decide_eq_true_eq] at ho
    obtain ⟨rfl, rfl⟩ := ho
    split at h
    · cases h
      exact lv_iushr hx hb hd rfl (kk ls hl)
    · cases h
  · -- ladd
    simp only [q_ok1, decide_eq_true_eq] at ho
    obtain ⟨rfl, rfl⟩ := ho
    split at h
    · cases h
      exact lv_ladd hx hb hd (kk ls hl)
    · cases h
  · -- lsub
    simp only [q_ok1, decide_eq_true_eq] at ho
    obtain ⟨rfl, rfl⟩ := ho
    split at h
    · cases h
      exact lv_lsub hx hb hd (kk ls hl)
    · cases h
  · -- lmul
    simp only [q_ok1, decide_eq_true_eq] at ho
    obtain ⟨rfl, rfl⟩ := ho
    split at h
    · cases h
      exact lv_lmul hx hb hd (kk ls hl)
    · cases h
  · -- land
    simp only [q_ok1, decide_eq_true_eq] at ho
    obtain ⟨rfl, rfl⟩ := ho
    split at h
    · cases h
      exact lv_land hx hb hd (kk ls hl)
    · cases h
  · -- lor
    simp only [q_ok1, decide_eq_true_eq] at ho
    obtain ⟨rfl, rfl⟩ := ho
    split at h
    · cases h
      exact lv_lor hx hb hd (kk ls hl)
    · cases h
  · -- lxor
    simp only [q_ok1, decide_eq_true_eq] at ho
    obtain ⟨rfl, rfl⟩ := ho
    split at h
    · cases h
      exact lv_lxor hx hb hd (kk ls hl)
    · cases h
  · -- idiv
    simp only [q_ok1, decide_eq_true_eq] at ho
    obtain ⟨rfl, rfl⟩ := ho
    split at h
    · split at h
      · cases h
      · rename_i hne
        cases h
        exact lv_idiv hx hb hd hne (kk ls hl)
    · cases h
  · -- irem
    simp only [q_ok1, decide_eq_true_eq] at ho
    obtain ⟨rfl, rfl⟩ := ho
    split at h
    · split at h
      · cases h
      · rename_i hne
        cases h
        exact lv_irem hx hb hd hne (kk ls hl)
    · cases h
  · -- ldiv
    simp only [q_ok1, decide_eq_true_eq] at ho
    obtain ⟨rfl, rfl⟩ := ho
    split at h
    · split at h
      · cases h
      · rename_i hne
        cases h
        exact lv_ldiv hx hb hd hne (kk ls hl)
    · cases h
  · -- lrem
    simp only [q_ok1, decide_eq_true_eq] at ho
    obtain ⟨rfl, rfl⟩ := ho
    split at h
    · split at h
      · cases h
      · rename_i hne
        cases h
        exact lv_lrem hx hb hd hne (kk ls hl)
    · cases h
  · -- lshl
    simp only [q_ok1, decide_eq_true_eq] at ho
    obtain ⟨rfl, rfl⟩ := ho
    split at h
    · cases h
      exact lv_lshl hx hb hd rfl (kk ls hl)
    · cases h
  · -- lshr
    simp only [q_ok1, decide_eq_true_eq] at ho
    obtain ⟨rfl, rfl⟩ := ho
    split at h
    · cases h
      exact lv_lshr hx hb hd rfl (kk ls hl)
    · cases h
  · -- lushr
    simp only [q_ok1, decide_eq_true_eq] at ho
    obtain ⟨rfl, rfl⟩ := ho
    split at h
    · cases h
      exact lv_lushr hx hb hd rfl (kk ls hl)
    · cases h
  · -- i2l
    simp only [q_ok1, decide_eq_true_eq] at ho
    obtain ⟨rfl, rfl⟩ := ho
    split at h
    · cases h
      exact lv_i2l hx hb hd rfl (kk ls hl)
    · cases h
  · -- l2i
    simp only [q_ok1, decide_eq_true_eq] at ho
    obtain ⟨rfl, rfl⟩ := ho
    split at h
    · cases h
      exact lv_l2i hx hb hd rfl (kk ls hl)
    · cases h
  · -- i2b
    simp only [q_ok1, decide_eq_true_eq] at ho
    obtain ⟨rfl, rfl⟩ := ho
    split at h
    · cases h
      exact lv_i2b hx hb hd rfl (kk ls hl)
    · cases h
  · -- i2s
    simp only [q_ok1, decide_eq_true_eq] at ho
    obtain ⟨rfl, rfl⟩ := ho
    split at h
    · cases h
      exact lv_i2s hx hb hd rfl (kk ls hl)
    · cases h
  · -- i2c
    simp only [q_ok1, decide_eq_true_eq] at ho
    obtain ⟨rfl, rfl⟩ := ho
    split at h
    · cases h
      exact lv_i2c hx hb hd rfl (kk ls hl)
    · cases h
  · -- ineg
    simp only [q_ok1, decide_eq_true_eq] at ho
    obtain ⟨rfl, rfl⟩ := ho
    split at h
    · cases h
      exact lv_ineg hx hb hd (kk ls hl)
    · cases h
  · -- lneg
    simp only [q_ok1, decide_eq_true_eq] at ho
    obtain ⟨rfl, rfl⟩ := ho
    split at h
    · cases h
      exact lv_lneg hx hb hd (kk ls hl)
    · cases h
  · -- lcmp
    simp only [q_ok1, decide_eq_true_eq] at ho
    obtain ⟨rfl, rfl⟩ := ho
    split at h
    · cases h
      exact W.lcmp hx hb hd (kk ls hl)
    · cases h
  · -- dup
    simp only [q_ok1, decide_eq_true_eq] at ho
    obtain ⟨rfl, rfl⟩ := ho
    split at h
    · split at h
      · rename_i hc
        cases h
        exact lv_dup hx hb hd (by rw [q_cv_cat]; exact hc) (kk ls hl)
      · cases h
    · cases h
  · -- pop
    simp only [q_ok1, decide_eq_true_eq] at ho
    obtain ⟨rfl, rfl⟩ := ho
    split at h
    · split at h
      · rename_i hc
        cases h
        exact lv_pop hx hb hd (by rw [q_cv_cat]; exact hc) (kk ls hl)
      · cases h
    · cases h
  · -- dup2
    simp only [q_ok1, decide_eq_true_eq] at ho
    obtain ⟨rfl, rfl⟩ := ho
    split at h
    · split at h
      · rename_i hc
        cases h
        exact lv_dup2_2 hx hb hd (by rw [q_cv_cat]; exact hc) (kk ls hl)
      · split at h
        · split at h
          · rename_i hc
            cases h
            exact lv_dup2_11 hx hb hd (by rw [q_cv_cat]; exact hc.1) (by rw [q_cv_cat]; exact hc.2) (kk ls hl)
          · cases h
        · cases h
    · cases h
  · -- pop2
    simp only [q_ok1, decide_eq_true_eq] at ho
    obtain ⟨rfl, rfl⟩ := ho
    split at h
    · split at h
      · rename_i hc
        cases h
        exact lv_pop2_2 hx hb hd (by rw [q_cv_cat]; exact hc) (kk ls hl)
      · cases h
    · cases h
  · -- ifCond
    simp only [q_ok1, decide_eq_true_eq] at ho
    obtain ⟨rfl, rfl⟩ := ho
    split at h
    · rename_i cd off _ x r
      cases cd <;> simp only [q_c] at h
      · exact q_brW h (fun t ht k1 k2 => lv_if_eq hx hb hd ht k1 k2) (fun q => kk ls (q ▸ hl))
      · exact q_brW h (fun t ht k1 k2 => lv_if_ne hx hb hd ht k1 (fun a => k2 (fun b => b a))) (fun q => kk ls (q ▸ hl))
      · exact q_brW h (fun t ht k1 k2 => lv_if_lt hx hb hd ht k1 k2) (fun q => kk ls (q ▸ hl))
      · exact q_brW h (fun t ht k1 k2 => lv_if_ge hx hb hd ht k1 k2) (fun q => kk ls (q ▸ hl))
      · exact q_brW h (fun t ht k1 k2 => lv_if_gt hx hb hd ht k1 k2) (fun q => kk ls (q ▸ hl))
      · exact q_brW h (fun t ht k1 k2 => lv_if_le hx hb hd ht k1 k2) (fun q => kk ls (q ▸ hl))
    · cases h
  · -- if_icmp
    simp only [q_ok1, decide_eq_true_eq] at ho
    obtain ⟨rfl, rfl⟩ := ho
    split at h
    · rename_i cd off _ y x r
      cases cd <;> simp only [q_c] at h
      · exact q_brW h (fun t ht k1 k2 => lv_icmp_eq hx hb hd ht k1 k2) (fun q => kk ls (q ▸ hl))
      · exact q_brW h (fun t ht k1 k2 => lv_icmp_ne hx hb hd ht k1 (fun a => k2 (fun b => b a))) (fun q => kk ls (q ▸ hl))
      · exact q_brW h (fun t ht k1 k2 => lv_icmp_lt hx hb hd ht k1 k2) (fun q => kk ls (q ▸ hl))
      · exact q_brW h (fun t ht k1 k2 => lv_icmp_ge hx hb hd ht k1 k2) (fun q => kk ls (q ▸ hl))
      · exact q_brW h (fun t ht k1 k2 => lv_icmp_gt hx hb hd ht k1 k2) (fun q => kk ls (q ▸ hl))
      · exact q_brW h (fun t ht k1 k2 => lv_icmp_le hx hb hd ht k1 k2) (fun q => kk ls (q ▸ hl))
    · cases h
  · -- goto
    simp only [q_ok1, decide_eq_true_eq] at ho
    obtain ⟨rfl, rfl⟩ := ho
    obtain ⟨ht, rfl, rfl⟩ := q_toW lv h
    exact lv_goto hx hb hd ht (kk ls hl)
  · -- tableswitch
    simp only [q_ok1, decide_eq_true_eq] at ho
    obtain rfl := ho
    split at h
    · split at h
      · rename_i hc
        obtain ⟨ht, rfl, rfl⟩ := q_toW lv h
        exact lv_tableOut hx hb hd hc ht (kk ls hl)
      · rename_i hc
        split at h
        · rename_i hoff
          obtain ⟨ht, rfl, rfl⟩ := q_toW lv h
          exact lv_tableIn hx hb hd (fun q => hc (Or.inl q)) (fun q => hc (Or.inr q)) hoff ht (kk ls hl)
        · cases h
    · cases h
  · -- lookupswitch
    simp only [q_ok1, decide_eq_true_eq] at ho
    obtain rfl := ho
    split at h
    · split at h
      · rename_i hc
        obtain ⟨ht, rfl, rfl⟩ := q_toW lv h
        exact lv_lookup hx hb hd hc rfl ht (kk ls hl)
      · cases h
    · cases h
  · cases h
end QPURE

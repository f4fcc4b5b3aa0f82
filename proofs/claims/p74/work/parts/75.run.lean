theorem q_setz {q : q_M} {k : Nat} {x y : q_E} (h : q[k]? = some x) (hs : q_sz y = q_sz x) : (q.set k y).length = q.length ∧ q_sl (q.set k y) = q_sl q := ⟨List.length_set, q_sl_set h hs⟩
theorem q_mem_sz {G : q_G} {fr lo : Nat} {i : Instr} {st st1 : List Value} {q q1 : q_M} (h : q_mem G fr lo i st q = some (st1, q1)) : q1.length = q.length ∧ q_sl q1 = q_sl q := by
  unfold q_mem at h
  repeat' split at h
  all_goals first
    | (cases h; done)
    | (cases h; exact ⟨rfl, rfl⟩)
    | (cases h; refine q_setz (by assumption) ?_; first | rfl | simp [q_sz])
    | skip
  unfold q_copy at h
  repeat' split at h
  all_goals first
    | (cases h; done)
    | skip
  unfold q_cpy at h
  repeat' split at h
  all_goals first
    | (cases h; done)
    | (cases h; refine q_setz (by assumption) ?_; first | rfl | simp [q_sz])
theorem q_mono {G : q_G} : ∀ (n : Nat) (M : q_MI) (pc : Nat) (lv : q_L) (st : List Value) (q : q_M) (r : Option Value) (qF : q_M), q_run G n M pc lv st q = some (r, qF) → q.length ≤ qF.length ∧ q_sl q ≤ q_sl qF
  | 0, _, _, _, _, _, _, _, h => by simp [q_run] at h
  | n + 1, M, pc, lv, st, q, r, qF, h => by
    unfold q_run at h
    split at h
    · cases h
    · split at h
      · split at h
        · exact q_mono n _ _ _ _ _ _ _ h
        · cases h
      · split at h
        · rename_i h1
          have h2 := q_mono n _ _ _ _ _ _ _ h
          have h3 := q_mem_sz h1
          rw [h3.1, h3.2] at h2
          exact h2
        · cases h
      · split at h
        · have h2 := q_mono n _ _ _ _ _ _ _ h
          rw [q_sl_push, List.length_append] at h2
          exact ⟨by omega, by omega⟩
        · cases h
      · split at h
        · split at h
          · split at h
            · rename_i h1
              have h2 := q_mono n _ _ _ _ _ _ _ h
              have h3 := q_mono n _ _ _ _ _ _ _ h1
              exact ⟨by omega, by omega⟩
            · cases h
          · cases h
        · split at h
          · cases h
            exact ⟨Nat.le_refl _, Nat.le_refl _⟩
          · cases h
      · split at h
        · exact q_mono n _ _ _ _ _ _ _ h
        · cases h
def q_Nst (G : q_G) (U : State) : Prop := (∀ z ∈ q_gN G, va_Nw (.methodLinkNest z.1 z.2.1 z.2.2.1 z.2.2.2) U) ∧ (∀ (t : Nat) (C : String), (q_gA G)[t]? = some (.object C) → va_AO C U)
theorem q_Nst_warm {G : q_G} {s U : State} (hW : s.WarmedH U.vm) (h : q_Nst G s) : q_Nst G U := ⟨fun z hz => va_Nw.warmM hW (h.1 z hz), fun t C ht => va_AO.moved hW.alike (h.2 t C ht)⟩
theorem q_Nst_same {G : q_G} {u U : State} (e : u.vm = U.vm) (h : q_Nst G u) : q_Nst G U := ⟨fun z hz => va_Nw.same rfl e (h.1 z hz), fun t C ht => va_AO.moved (by rw [e]; exact Vm.Alike.refl _) (h.2 t C ht)⟩
def q_Pc (G : q_G) (D : va_G) (bs : q_B) (tc : Nat → ClassId) (as : List Value) (q : q_M) : Array Value → State → Prop := fun v U => v = (as.map (q_cv bs)).toArray ∧ U.heap.size = bs.1 + q.length ∧ q_Wd D (q_gC G) bs tc q U.heap ∧ va_K D (q_gC G) (q_tyl G tc) U ∧ q_Nst G U ∧ q_Sh G bs U U.heap
def q_Qc (G : q_G) (D : va_G) (bs : q_B) (tc : Nat → ClassId) (r : Option Value) (q : q_M) : Array Value → State → Outcome → State → Prop := fun _ st o t => o = .returned (r.map (q_cv bs)) ∧ q_Wd D (q_gC G) bs tc q t.heap ∧ va_F (fun z => bs.1 ≤ z) st t
def q_ws (G : q_G) (M : q_MI) : List Cond := .code (q_mY M) (q_mB M) (q_mL M) (q_mR M) :: q_T G
theorem q_blind {G : q_G} {D : va_G} {bs : q_B} {tc : Nat → ClassId} {as : List Value} {q : q_M} : FrameBlind (q_Pc G D bs tc as q) := fun a U g mk h => by
  obtain ⟨h1, h2, h3, h4, h5, h6⟩ := h
  exact ⟨h1, h2, h3, va_K.moved (u := U) (U := U.calling g mk a) (Vm.Alike.refl U.vm) h4, q_Nst_same rfl h5, q_Sh_same (u := U) (U := U.calling g mk a) rfl h6⟩
theorem q_args_cl (bs : q_B) : ∀ (as : List Value) (i : Nat), lv_args i (as.map (q_cv bs)) = q_cl bs (lv_args i as)
  | [], i => rfl
  | v :: as, i => by
    simp only [List.map_cons, lv_args, q_cv_cat]
    rw [q_args_cl bs as]
    rfl
theorem q_sl_len (bs : q_B) : ∀ (as : List Value), (lg_sl (as.map (q_cv bs))).length = q_cats as
  | [] => rfl
  | v :: as => by
    have ih := q_sl_len bs as
    simp only [lg_sl, List.map_cons, List.flatMap_cons, List.length_append, q_cats, List.sum_cons, q_cv_cat] at ih ⊢
    rw [ih]
    rcases lv_cat v with h | h <;> simp [h]
section QCALL
variable {p : Program} {l : Launch} {e : Env} {R : Room} {s : State} {m : MethodId} {args : Array Value} {below : List Frame} {meth : Method} {c : Code} {H : Heap} {locs : List Loc} {cells slots : Nat} {Q : State → Prop}
variable {pc : Nat} {ls : Array Slot} {G : q_G} {D : va_G} {bs : q_B} {tc : Nat → ClassId}
theorem q_callW {mc ms : Nat} {st0 rest : List Value} {r1 : Option Value} {q1 : q_M} {a : Array Value} (hr : va_Run p l e R s m args below meth c H locs cells slots mc ms (F0 m pc ls st0) rest (q_Qc G D bs tc r1 q1 a) (fun z => bs.1 ≤ z)) (hS : va_S (fun z => bs.1 ≤ z) s.heap H locs)
    (kk : ∀ (H1 : Heap) (locs1 : List Loc), q_Wd D (q_gC G) bs tc q1 H1 → va_S (fun z => bs.1 ≤ z) s.heap H1 locs1 → W p l e R s m args below meth c H1 locs1 (cells + mc) (slots + ms) Q (F0 m (pc + 3) ls ((r1.map (q_cv bs)).toList ++ rest))) : W p l e R s m args below meth c H locs cells slots Q (F0 m pc ls st0) := by
  intro T hT X
  obtain ⟨v, st₀, t, T', L, h0, X', hL, e1, e2, ⟨hv, hb, hz, hk⟩, st⟩ := hr T hT X
  cases hv
  rw [h0] at hz hk
  obtain ⟨t2, a1, b1⟩ := kk T'.heap (locs ++ L) (by rw [e1]; exact hb)
    ⟨Nat.le_trans hS.1 (by rw [e1]; exact hz), fun z h1 h2 => by rw [e1, hk z (Nat.lt_of_lt_of_le h1 hS.1) h2]; exact hS.2.1 z h1 h2, fun z hz => by
      rcases List.mem_append.mp hz with h | h
      · exact hS.2.2 z h
      · exact hL z h⟩ T' rfl X'
  exact ⟨t2, st t2 a1, b1⟩
end QCALL

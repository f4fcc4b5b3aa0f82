section QNEW
variable {p : Program} {l : Launch} {e : Env} {R : Room} {s : State} {m : MethodId} {args : Array Value} {below : List Frame} {meth : Method} {c : Code} {H : Heap} {locs : List Loc} {cells slots : Nat} {Q : State → Prop}
variable {cc : ByteArray} {pc : Nat} {ls : Array Slot} {G : q_G} {D : va_G} {bs : q_B} {tc : Nat → ClassId}
theorem q_pushed {cl : List vw_C} {q : q_M} {x : q_E} {H1 : Heap} (hw : q_Wd D cl bs tc q H) (hz : H.size = bs.1 + q.length) (e1 : va_at D cl (H.size, q_ce bs tc x) H1) (o1 : ∀ z, z < H.size → H1[z]? = H[z]?) : q_Wd D cl bs tc (q ++ [x]) H1 := by
  show va_P _ _ _ _
  rw [← q_cw_push]
  refine (va_P.kept hw (fun k y hy => o1 y.1 ((hw k y hy).lt))).app (fun k y hy => ?_)
  have hk : k < 1 := (List.getElem?_eq_some_iff.mp hy).1
  rw [show k = 0 by omega] at hy
  cases hy
  rw [← hz]
  exact e1
theorem q_grown {H0 H1 : Heap} (hS : va_S (fun z => bs.1 ≤ z) H0 H locs) (z1 : H1.size = H.size + 1) (o1 : ∀ z, z < H.size → H1[z]? = H[z]?) : va_S (fun z => bs.1 ≤ z) H0 H1 locs :=
  ⟨Nat.le_trans hS.1 (by omega), fun x h1 h2 => (o1 x (Nat.lt_of_lt_of_le h1 hS.1)).trans (hS.2.1 x h1 h2), hS.2.2⟩
theorem q_newW (hx : p.tables.exec = Jvm.exec) (hb : c.code = cc) (hV : q_GV G) {own : String} (hown : s.vm.findClass own = some m.cls) (hts : ∀ w ∈ q_T G, w.before args s = true) (hK : va_K D (q_gC G) (q_tyl G tc) s)
    (hAO : ∀ (t : Nat) (C : String), (q_gA G)[t]? = some (.object C) → va_AO C s)
    {len pos : Nat} {raw i : Instr} {st st' : List Value} {q : q_M} {x : q_E} (hd : decode cc pc = .ok (raw, len)) (ho : q_ok3 G own raw len i pos = true)
    (hw : q_Wd D (q_gC G) bs tc q H) (hS : va_S (fun z => bs.1 ≤ z) s.heap H locs) (hz : H.size = bs.1 + q.length)
    (h : q_new G i st q = some (st', x)) (hc1 : cells + 1 ≤ R.cells) (hc2 : slots + q_sz x ≤ R.slots)
    (kk : ∀ (H1 : Heap), q_Wd D (q_gC G) bs tc (q ++ [x]) H1 → va_S (fun z => bs.1 ≤ z) s.heap H1 locs → W p l e R s m args below meth c H1 locs (cells + 1) (slots + q_sz x) Q (F0 m (pc + len) ls (st'.map (q_cv bs)))) : W p l e R s m args below meth c H locs cells slots Q (F0 m pc ls (st.map (q_cv bs))) := by
  unfold q_new at h
  split at h
  · -- new
    rename_i ci
    simp only [q_ok3] at ho
    split at ho
    rotate_left
    · cases ho
    split at ho
    rotate_left
    · cases ho
    rename_i C T N hc
    simp only [decide_eq_true_eq] at ho
    obtain ⟨rfl, hl⟩ := ho
    rw [hc] at h
    cases h
    have hKn := hK.1 ci _ hc
    have hG := hV.1 _ _ _ _ hc
    have hN : q_sz (.inr (ci, (List.range N).map (fun k => defaultValue (q_gY G ci k)))) = N := by simp [q_sz]
    rw [hN] at hc2 kk
    refine W.newcK hx hb hown (hts _ (q_T_at hl rfl)) (hts _ hG.2.2.2.1) (hts _ hG.2.2.2.2) rfl hd hc1 hc2 hKn.2.1 rfl fun H1 kC hkC e1 z1 o1 => ?_
    have K := kk H1 (q_pushed hw hz ⟨_, hc, (u_born (q_gY G ci) hts hG.1 hKn hkC e1 hG.2.1).to (fun k hk => by
      have : ¬ N ≤ k := by omega
      simp only [vp_V, List.getD_eq_getElem?_getD, List.getElem?_map, List.getElem?_range hk]
      simp only [Option.map_some, Option.getD_some]
      cases q_gY G ci k <;> rfl)⟩ o1) (q_grown hS z1 o1)
    simp only [List.map_cons, q_cv] at K
    rw [← hz] at K
    exact K
  · -- newarray
    rename_i a
    simp only [q_ok3, decide_eq_true_eq] at ho
    obtain ⟨rfl, rfl, hl, hA⟩ := ho
    split at h
    rotate_left
    · cases h
    rename_i w r
    split at h
    rotate_left
    · cases h
    rename_i hw3
    obtain ⟨hw0, hw1, hw2⟩ := hw3
    cases h
    have hbytes : w.toNatClampNeg * componentBytes (Op.newarray.typeOf a) ≤ 536870912 := by
      have : componentBytes (Op.newarray.typeOf a) ≤ 8 := by cases a <;> decide
      have := Nat.mul_le_mul hw1 this
      omega
    have hty := hK.2 (q_tag a) _ (q_tyl_get hA)
    refine va_newaK hx hb (hts _ (q_T_at hl rfl)) rfl hd rfl hw0 rfl hbytes hc1 hc2 rfl fun H1 cA e1 z1 o1 hAr hNm => ?_
    have hcA : tc (q_tag a) = cA := by
      have h9 := hty.2
      cases a <;> first | exact absurd hw2 (by decide) | exact Option.some.inj (h9.symm.trans hNm)
    subst hcA
    have K := kk H1 (q_pushed hw hz (by
      cases a <;> first | exact absurd hw2 (by decide) | exact e1) o1) (q_grown hS z1 o1)
    simp only [List.map_cons, q_cv] at K
    rw [← hz] at K
    exact K
  · -- anewarray
    rename_i t
    simp only [q_ok3] at ho
    split at ho
    rotate_left
    · cases ho
    split at ho
    rotate_left
    · cases ho
    rename_i o y C hl
    simp only [decide_eq_true_eq] at ho
    obtain ⟨rfl, rfl, rfl, hA⟩ := ho
    split at h
    rotate_left
    · cases h
    rename_i w r
    split at h
    rotate_left
    · cases h
    rename_i hw3
    obtain ⟨hw0, hw1⟩ := hw3
    cases h
    have hty := hK.2 t _ (q_tyl_get hA)
    obtain ⟨kA0, comp0, g1, g2, g3, g4⟩ := hty.2
    refine W.anew hx hb hown (hts _ (q_T_at hl rfl)) (va_AO.use (hAO t C hA)) rfl hd rfl hw0 (by omega) hc1 hc2 fun cA kA comp f1 f2 f3 f4 => ?_
    have hcA : tc t = cA := Option.some.inj (g4.symm.trans f1)
    subst hcA
    have e1 : va_at D (q_gC G) (H.size, q_ce bs tc (.inl (t, w.toNatClampNeg, .inr (.inr (fun _ => none))))) (H.push { cls := tc t, slots := Array.replicate w.toNatClampNeg .null, vm := .none }) := by
      show (H.push _)[H.size]? = some (vp_cell _ _)
      simp only [Array.getElem?_push_size, vp_cell, Option.map_none, va_rf]
      rw [← arrV_new]
    have o1 : ∀ z, z < H.size → (H.push { cls := tc t, slots := Array.replicate w.toNatClampNeg .null, vm := .none })[z]? = H[z]? := fun z hz9 => by rw [Array.getElem?_push, if_neg (Nat.ne_of_lt hz9)]
    have K := kk _ (q_pushed hw hz e1 o1) (q_grown hS (by simp) o1)
    simp only [List.map_cons, q_cv] at K
    rw [← hz] at K
    exact K
  · cases h
end QNEW

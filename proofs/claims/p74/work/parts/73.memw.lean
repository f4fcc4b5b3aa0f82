section QMEM
variable {p : Program} {l : Launch} {e : Env} {R : Room} {s : State} {m : MethodId} {args : Array Value} {below : List Frame} {meth : Method} {c : Code} {H : Heap} {locs : List Loc} {cells slots : Nat} {Q : State → Prop}
variable {cc : ByteArray} {pc : Nat} {ls : Array Slot} {G : q_G} {D : va_G} {bs : q_B} {tc : Nat → ClassId}
theorem q_sized {g : JFrame} (k : H.size ≤ s.heap.size + cells → W p l e R s m args below meth c H locs cells slots Q g) : W p l e R s m args below meth c H locs cells slots Q g := fun T hT X => k (by rw [← hT]; exact X.heapSize) T hT X
theorem q_low {cl : List vw_C} {q q0 : q_M} {H0 : Heap} (hw : va_P D cl (q_cw bs tc q) H) (hS : va_S (fun z => bs.1 ≤ z) H0 H locs) (h0 : H0.size = bs.1 + q0.length) : bs.1 + q.length ≤ H.size := by
  by_cases hq : q.length = 0
  · have := hS.1
    omega
  · have hk : q.length - 1 < q.length := by omega
    have h1 := (hw (q.length - 1) _ (q_cw_get (bs := bs) (tc := tc) (List.getElem?_eq_getElem hk))).lt
    simp only at h1
    omega
theorem q_Wset {cl : List vw_C} {q : q_M} {k : Nat} {x : q_E} (h : va_P D cl ((q_cw bs tc q).set k (bs.1 + k, q_ce bs tc x)) H) : q_Wd D cl bs tc (q.set k x) H := by
  rw [q_cw_set] at h
  exact h
theorem q_memW (hx : p.tables.exec = Jvm.exec) (hb : c.code = cc) (hml : c.maxLocals = ls.size) (hV : q_GV G) {own : String} {kd : Nat} (hown : s.vm.findClass own = some m.cls) (hts : ∀ w ∈ q_T G, w.before args s = true) (hK : va_K D (q_gC G) (q_tyl G tc) s) (hini : kd = 2 → meth.name = "<init>") (hSh : q_Sh G bs s s.heap) (hcl : cells ≤ R.cells) (hsl : slots ≤ R.slots)
    {len pos : Nat} {raw i : Instr} {st st' : List Value} {q q' : q_M} (hd : decode cc pc = .ok (raw, len)) (ho : q_ok2 G own kd raw len i pos = true)
    (hw : q_Wd D (q_gC G) bs tc q H) (hS : va_S (fun z => bs.1 ≤ z) s.heap H locs)
    (h : q_mem G R.frames R.locals i st q = some (st', q'))
    (kk : ∀ (H1 : Heap) (locs1 : List Loc), q_Wd D (q_gC G) bs tc q' H1 → va_S (fun z => bs.1 ≤ z) s.heap H1 locs1 → W p l e R s m args below meth c H1 locs1 cells slots Q (F0 m (pc + len) ls (st'.map (q_cv bs)))) : W p l e R s m args below meth c H locs cells slots Q (F0 m pc ls (st.map (q_cv bs))) := by
  have hD := q_cw_D (bs := bs) (tc := tc) (m := q)
  unfold q_mem at h
  split at h
  · -- getfield
    rename_i n
    simp only [q_ok2] at ho
    split at ho
    rotate_left
    · cases ho
    rename_i x
    split at ho
    rotate_left
    · cases ho
    rename_i C T N hc
    simp only [decide_eq_true_eq] at ho
    obtain ⟨rfl, hk, hC, hl⟩ := ho
    split at h
    rotate_left
    · cases h
    split at h
    rotate_left
    · cases h
    rename_i ci fs hm
    split at h
    rotate_left
    · cases h
    rename_i hci
    subst hci
    split at h
    rotate_left
    · cases h
    rename_i v hv
    cases h
    have hq := q_cw_get (bs := bs) (tc := tc) hm
    refine va_get hx hb hts (hV.1 _ _ _ _ hc).1 hown hK hw _ hq hc (n % 64) hk (hts _ (q_T_at hl rfl)) (fun z hz => by rw [hC] at hz; exact hz) (v := q_cv bs v) (by simp [List.getElem?_map, hv]) hd ?_
    exact kk H locs hw hS
  · -- putfield
    rename_i n
    simp only [q_ok2] at ho
    split at ho
    rotate_left
    · cases ho
    rename_i x
    split at ho
    rotate_left
    · cases ho
    rename_i C T N hc
    simp only [decide_eq_true_eq] at ho
    obtain ⟨rfl, hk, hC, hf, hl⟩ := ho
    split at h
    rotate_left
    · cases h
    split at h
    rotate_left
    · cases h
    rename_i v k r _ ci fs hm
    split at h
    rotate_left
    · cases h
    rename_i hci
    obtain ⟨hci, hlen, hn, hfit⟩ := hci
    subst hci
    cases h
    have hq := q_cw_get (bs := bs) (tc := tc) hm
    have hG := hV.1 _ _ _ _ hc
    have e1 : (q_cw bs tc q).set k (bs.1 + k, .inr (n / 64, (fs.map (q_cv bs)).set (n % 64) (q_cv bs v))) = q_cw bs tc (q.set k (.inr (n / 64, fs.set (n % 64) v))) := by
      rw [← q_cw_set]
      simp [q_ce, List.map_set]
    have fin : ∀ (H1 : Heap) (locs1 : List Loc), va_P D (q_gC G) ((q_cw bs tc q).set k (bs.1 + k, .inr (n / 64, (fs.map (q_cv bs)).set (n % 64) (q_cv bs v)))) H1 → va_D (fun z => bs.1 ≤ z) ((q_cw bs tc q).set k (bs.1 + k, .inr (n / 64, (fs.map (q_cv bs)).set (n % 64) (q_cv bs v)))) → va_S (fun z => bs.1 ≤ z) s.heap H1 locs1 → W p l e R s m args below meth c H1 locs1 cells slots Q (F0 m (pc + 3) ls (st'.map (q_cv bs))) := fun H1 locs1 a1 _ a3 => kk H1 locs1 (by show va_P _ _ _ _; rw [← e1]; exact a1) a3
    by_cases hfin : (T (n % 64)).2.2.2 = false
    · exact va_put hx hb hts hG.1 (q_gY G (n / 64)) hG.2.1 hG.2.2.1 hown hK hw hD hS k hq hc (n % 64) hk (hts _ (q_T_at hl rfl)) (fun z hz => by rw [hC] at hz; exact hz) hfin (hG.2.1 _ hk) (v := q_cv bs v) (by rw [q_cv_narrow, hn]) (q_cv_fits bs _ v hfit) (by simpa using hlen) hd fin
    · rcases hf with hf | hf
      · exact absurd hf hfin
      · exact va_putF hx hb hts hG.1 (q_gY G (n / 64)) hG.2.1 hG.2.2.1 hown hK hw hD hS k hq hc (n % 64) hk (hts _ (q_T_at hl rfl)) (fun z hz => by rw [hC] at hz; exact hz) (by simpa using hfin) (hini hf.1) (by rw [hC]; exact hf.2) (hG.2.1 _ hk) (v := q_cv bs v) (by rw [q_cv_narrow, hn]) (q_cv_fits bs _ v hfit) (by simpa using hlen) hd fin
  · -- iaload
    simp only [q_ok2, decide_eq_true_eq] at ho
    obtain ⟨rfl, rfl, hA⟩ := ho
    split at h
    rotate_left
    · cases h
    split at h
    rotate_left
    · cases h
    rename_i j k r _ t n f hm
    split at h
    rotate_left
    · cases h
    rename_i hc
    obtain ⟨rfl, hin⟩ := hc
    cases h
    exact va_iald hx hb hK hw k 0 (q_cw_get (bs := bs) (tc := tc) hm) (q_tyl_get hA) (q_in_vp hin) hd (kk H locs hw hS)
  · -- laload
    simp only [q_ok2, decide_eq_true_eq] at ho
    obtain ⟨rfl, rfl, hA⟩ := ho
    split at h
    rotate_left
    · cases h
    split at h
    rotate_left
    · cases h
    rename_i j k r _ t n f hm
    split at h
    rotate_left
    · cases h
    rename_i hc
    obtain ⟨rfl, hin⟩ := hc
    cases h
    exact va_lald hx hb hK hw k 1 (q_cw_get (bs := bs) (tc := tc) hm) (q_tyl_get hA) (q_in_vp hin) hd (kk H locs hw hS)
  · -- baload
    simp only [q_ok2, decide_eq_true_eq] at ho
    obtain ⟨rfl, rfl, hA, hA2⟩ := ho
    split at h
    rotate_left
    · cases h
    split at h
    rotate_left
    · cases h
    rename_i j k r _ t n f hm
    split at h
    rotate_left
    · cases h
    rename_i hc
    obtain ⟨ht, hin⟩ := hc
    cases h
    rcases ht with rfl | rfl
    · exact va_bald hx hb hK hw k 2 (q_cw_get (bs := bs) (tc := tc) hm) (q_tyl_get hA) (q_in_vp hin) hd (kk H locs hw hS)
    · exact va_zald hx hb hK hw k 3 (q_cw_get (bs := bs) (tc := tc) hm) (q_tyl_get hA2) (q_in_vp hin) hd (kk H locs hw hS)
  · -- aaload
    simp only [q_ok2, decide_eq_true_eq] at ho
    obtain ⟨rfl, rfl, hA, hA2⟩ := ho
    split at h
    rotate_left
    · cases h
    split at h
    rotate_left
    · cases h
    rename_i j k r _ t n f hm
    split at h
    rotate_left
    · cases h
    rename_i hc
    obtain ⟨ht, hin, ht2⟩ := hc
    cases h
    obtain ⟨C, hC⟩ : ∃ C, (q_gA G)[t]? = some (.object C) := by
      have hz : (q_gA G)[t]? = some ((q_gA G)[t]) := List.getElem?_eq_getElem ht2
      have hmem : (q_gA G)[t] ∈ (q_gA G).drop 4 := by
        refine List.mem_of_getElem? (i := t - 4) ?_
        rw [List.getElem?_drop, show 4 + (t - 4) = t by omega]
        exact hz
      have hall := List.all_eq_true.mp hA _ hmem
      split at hall
      · rename_i C hC
        exact ⟨C, by rw [hz, hC]⟩
      · cases hall
    refine va_aldq hx hb hK hw k t (q_cw_get (bs := bs) (tc := tc) hm) (q_tyl_get hC) (q_in_vp hin) hd ?_
    have e2 : va_rf ((f j.toNatClampNeg).map (fun z => bs.1 + z)) = q_cv bs (va_rf (f j.toNatClampNeg)) := by
      cases f j.toNatClampNeg <;> rfl
    rw [e2]
    exact kk H locs hw hS
  · -- iastore
    simp only [q_ok2, decide_eq_true_eq] at ho
    obtain ⟨rfl, rfl, hA⟩ := ho
    split at h
    rotate_left
    · cases h
    split at h
    rotate_left
    · cases h
    rename_i x j k r _ t n f hm
    split at h
    rotate_left
    · cases h
    rename_i hc
    obtain ⟨rfl, hin⟩ := hc
    cases h
    exact va_iast hx hb hK hw hD hS k 0 (q_cw_get (bs := bs) (tc := tc) hm) (q_tyl_get hA) (q_in_vp hin) hd (fun H1 locs1 a1 _ a3 => kk H1 locs1 (q_Wset a1) a3)
  · -- lastore
    simp only [q_ok2, decide_eq_true_eq] at ho
    obtain ⟨rfl, rfl, hA⟩ := ho
    split at h
    rotate_left
    · cases h
    split at h
    rotate_left
    · cases h
    rename_i x j k r _ t n f hm
    split at h
    rotate_left
    · cases h
    rename_i hc
    obtain ⟨rfl, hin⟩ := hc
    cases h
    exact va_last hx hb hK hw hD hS k 1 (q_cw_get (bs := bs) (tc := tc) hm) (q_tyl_get hA) (q_in_vp hin) hd (fun H1 locs1 a1 _ a3 => kk H1 locs1 (q_Wset a1) a3)
  · -- bastore
    simp only [q_ok2, decide_eq_true_eq] at ho
    obtain ⟨rfl, rfl, hA, hA2⟩ := ho
    split at h
    rotate_left
    · cases h
    split at h
    rotate_left
    · cases h
    rename_i x j k r _ t n f hm
    split at h
    · rename_i hc
      obtain ⟨rfl, hin⟩ := hc
      cases h
      exact va_bast hx hb hK hw hD hS k 2 (q_cw_get (bs := bs) (tc := tc) hm) (q_tyl_get hA) (q_in_vp hin) hd (fun H1 locs1 a1 _ a3 => kk H1 locs1 (q_Wset a1) a3)
    · split at h
      rotate_left
      · cases h
      rename_i hc
      obtain ⟨rfl, hin⟩ := hc
      cases h
      exact va_zast hx hb hK hw hD hS k 3 (q_cw_get (bs := bs) (tc := tc) hm) (q_tyl_get hA2) (q_in_vp hin) hd (fun H1 locs1 a1 _ a3 => kk H1 locs1 (q_Wset a1) a3)
  · -- aastore
    simp only [q_ok2, decide_eq_true_eq] at ho
    obtain ⟨rfl, rfl⟩ := ho
    split at h
    rotate_left
    · cases h
    split at h
    rotate_left
    · cases h
    rename_i v j k r _ t n f hm
    split at h
    rotate_left
    · cases h
    rename_i _ ci vs hmv
    split at h
    rotate_left
    · cases h
    rename_i hc
    obtain ⟨ht, hin, hC, hC2⟩ := hc
    cases h
    cases hci : (q_gC G)[ci]? with
    | none =>
      rw [hci] at hC
      rw [← hC] at hC2
      cases hC2
    | some z =>
      rw [hci] at hC
      refine va_astq hx hb hK hw hD hS k t v ci (r := z) (q_cw_get (bs := bs) (tc := tc) hm) (q_tyl_get hC.symm) (q_cw_get (bs := bs) (tc := tc) hmv) hci (q_in_vp hin) hd (fun H1 locs1 a1 _ a3 => kk H1 locs1 ?_ a3)
      have e3 : (fun y => (va_up f j.toNatClampNeg (some v) y).map (fun z => bs.1 + z)) = va_up (fun y => (f y).map (fun z => bs.1 + z)) j.toNatClampNeg (some (bs.1 + v)) := by
        funext y
        simp only [va_up]
        split <;> rfl
      refine q_Wset ?_
      simp only [q_ce, e3]
      exact a1
  · -- arraylength
    simp only [q_ok2, decide_eq_true_eq] at ho
    obtain ⟨rfl, rfl⟩ := ho
    split at h
    rotate_left
    · cases h
    split at h
    rotate_left
    · cases h
    rename_i k r _ t n f hm
    split at h
    rotate_left
    · cases h
    rename_i hc
    cases h
    have hty := q_tyl_get (G := G) (tc := tc) (List.getElem?_eq_getElem hc)
    have hq := q_cw_get (bs := bs) (tc := tc) hm
    rcases f with f | f | f
    · exact va_alen hx hb hK hw k t hq hty rfl hd (kk H locs hw hS)
    · exact va_alen hx hb hK hw k t hq hty rfl hd (kk H locs hw hS)
    · exact va_alen hx hb hK hw k t hq hty rfl hd (kk H locs hw hS)
  · -- Object's own start, a row copied
    simp only [q_ok2] at ho
    split at h
    · rename_i n hn
      subst hn
      split at ho
      · simp only [decide_eq_true_eq] at ho
        obtain ⟨-, rfl, hl⟩ := ho
        split at h
        rotate_left
        · cases h
        split at h
        rotate_left
        · cases h
        rename_i hc
        cases h
        exact W.objInit hx hb hown (hts _ (q_T_at hl rfl)) (hts _ (hV.2.1 _ (by simp [q_sys]))) (hts _ (hV.2.1 _ (by simp [q_sys]))) rfl hml.symm rfl hd hc.1 (by
          rw [q_cats_cv]
          have := hc.2
          simpa [JFrame.monitorRoom] using this) (kk H locs hw hS)
      · simp only [decide_eq_true_eq] at ho
        exact absurd ho.1 (by decide)
      · simp only [decide_eq_true_eq] at ho
        rcases ho with ⟨-, ⟨h9, -⟩ | ⟨h9, -⟩⟩ <;> exact absurd h9 (by decide)
      · cases ho
    · split at h
      rotate_left
      · -- a text's length, a sign of it
        rename_i n hn0 hn1
        obtain ⟨w, hSh⟩ := hSh
        split at ho
        · simp only [decide_eq_true_eq] at ho
          exact absurd ho.1 hn0
        · simp only [decide_eq_true_eq] at ho
          exact absurd ho.1 hn1
        · simp only [decide_eq_true_eq] at ho
          obtain ⟨rfl, ho⟩ := ho
          split at h
          · rename_i hn
            subst hn
            rcases ho with ⟨-, hl⟩ | ⟨h9, -⟩
            rotate_left
            · exact absurd h9 (by decide)
            split at h
            rotate_left
            · cases h
            rename_i a r
            split at h
            rotate_left
            · cases h
            rename_i x hx9
            split at h
            rotate_left
            · cases h
            rename_i hc
            obtain ⟨hfr, hca, hlo⟩ := hc
            cases h
            obtain ⟨-, av, hT⟩ := hSh a x hx9
            obtain ⟨cell, o1, o2, o3, -⟩ := (hT.kept hS.2.1).2.2.2.1
            have hcb := callB_of (R := R) (rm := ({ frames := 1, cells := 0, slots := 0, locals := 20 } : Room)) (mc := 0) (ms := 0) 0 hts (s_good hV.2.2 0 rfl) rfl rfl rfl (hts _ (hV.2.2 _ (s_in 7 rfl))) (hts _ (q_T_at hl rfl)) (by decide +kernel) ⟨by show 1 + 1 ≤ R.frames; omega, by show 8 + (1 + 11) + 20 ≤ R.locals; omega⟩
            exact s_callW (va_runV (C := "java/lang/String") (As := []) (b := bs.2 (a + 1)) (rest := r.map (q_cv bs)) ⟨hx, hb, hml, hown, hts⟩ (s_len l (fun z => bs.1 ≤ z) x.2.2.2 (bs.2 (a + 1)) av w) ⟨hcb, hts _ (hV.2.2 _ (s_in 10 rfl)), hts _ (hV.2.2 _ (s_in 11 rfl))⟩ ⟨s_blind, ⟨cell, o1, o2, o3⟩, fun U hU hW => ⟨rfl, s_T.moved hW.alike (by rw [hU]; exact hT.kept hS.2.1)⟩⟩ rfl rfl rfl rfl (lv_room (by rw [q_cats_cv]; exact hca)) hd ⟨hcl, hsl⟩) (kk H locs hw hS)
          · split at h
            rotate_left
            · cases h
            rename_i hn2 hn
            subst hn
            rcases ho with ⟨h9, -⟩ | ⟨-, hl⟩
            · exact absurd h9 (by decide)
            split at h
            rotate_left
            · cases h
            rename_i j a r
            split at h
            rotate_left
            · cases h
            rename_i x hx9
            split at h
            rotate_left
            · cases h
            rename_i hc
            obtain ⟨hfr, hca, hlo, hin⟩ := hc
            cases h
            obtain ⟨-, av, hT⟩ := hSh a x hx9
            obtain ⟨cell, o1, o2, o3, -⟩ := (hT.kept hS.2.1).2.2.2.1
            have hcb := callB_of (R := R) (rm := ({ frames := 3, cells := 0, slots := 0, locals := 64 } : Room)) (mc := 0) (ms := 0) 1 hts (s_good hV.2.2 2 rfl) rfl rfl rfl (hts _ (hV.2.2 _ (s_in 7 rfl))) (hts _ (q_T_at hl rfl)) (by decide +kernel) ⟨by show 3 + 1 ≤ R.frames; omega, by show 8 + (2 + 11) + 64 ≤ R.locals; omega⟩
            exact s_callW (va_runV (C := "java/lang/String") (As := [.int j]) (b := bs.2 (a + 1)) (rest := r.map (q_cv bs)) ⟨hx, hb, hml, hown, hts⟩ (s_chr l (fun z => bs.1 ≤ z) x.2.2.2 (bs.2 (a + 1)) av w hin) ⟨hcb, hts _ (hV.2.2 _ (s_in 14 rfl)), hts _ (hV.2.2 _ (s_in 15 rfl))⟩ ⟨s_blind, ⟨cell, o1, o2, o3⟩, fun U hU hW => ⟨rfl, s_T.moved hW.alike (by rw [hU]; exact hT.kept hS.2.1)⟩⟩ rfl rfl rfl rfl (lv_room (by rw [q_cats_cv]; exact hca)) hd ⟨hcl, hsl⟩) (kk H locs hw hS)
        · cases ho
      rename_i n hn0 hn
      subst hn
      split at ho
      · simp only [decide_eq_true_eq] at ho
        exact absurd ho.1 (by decide)
      · simp only [decide_eq_true_eq] at ho
        obtain ⟨-, rfl, hA0, hA1, hl⟩ := ho
        unfold q_copy at h
        split at h
        rotate_left
        · cases h
        rename_i w dp k sp j r
        split at h
        rotate_left
        · cases h
        rename_i hc
        obtain ⟨hfr, hlo, hsp, hdp, hw0⟩ := hc
        have hlo2 : ((r.map (q_cv bs)).map fun v => v.category).sum + (nativeFrameWords "java/lang/System" "arraycopy" 5 + 11) ≤ R.locals := by
          rw [q_cats_cv]
          have e9 : nativeFrameWords "java/lang/System" "arraycopy" 5 = 7 := by decide +kernel
          omega
        unfold q_cpy at h
        split at h
        · rename_i t0 n0 f t1 n1 g hj hk
          split at h
          rotate_left
          · cases h
          rename_i hc
          obtain ⟨rfl, rfl, h4, h5⟩ := hc
          cases h
          exact va_copyi hx hb hml hown (hts _ (q_T_at hl rfl)) (hts _ (hV.2.1 _ (by simp [q_sys]))) (hts _ (hV.2.1 _ (by simp [q_sys]))) (hts _ (hV.2.1 _ (by simp [q_sys]))) hK hw hD hS j k 0 0 (ty := .int) (q_cw_get (bs := bs) (tc := tc) hj) (q_cw_get (bs := bs) (tc := tc) hk) (q_tyl_get hA0) (q_tyl_get hA0) rfl hsp hdp hw0 h4 h5 (fun _ _ => rfl) hfr hlo2 hd (fun H1 locs1 a1 _ a3 => kk H1 locs1 (q_Wset a1) a3)
        · rename_i t0 n0 f t1 n1 g hj hk
          split at h
          rotate_left
          · cases h
          rename_i hc
          obtain ⟨rfl, rfl, h4, h5⟩ := hc
          cases h
          exact va_copyl hx hb hml hown (hts _ (q_T_at hl rfl)) (hts _ (hV.2.1 _ (by simp [q_sys]))) (hts _ (hV.2.1 _ (by simp [q_sys]))) (hts _ (hV.2.1 _ (by simp [q_sys]))) hK hw hD hS j k 1 1 (ty := .long) (q_cw_get (bs := bs) (tc := tc) hj) (q_cw_get (bs := bs) (tc := tc) hk) (q_tyl_get hA1) (q_tyl_get hA1) rfl hsp hdp hw0 h4 h5 (fun _ _ => rfl) hfr hlo2 hd (fun H1 locs1 a1 _ a3 => kk H1 locs1 (q_Wset a1) a3)
        · cases h
      · simp only [decide_eq_true_eq] at ho
        rcases ho with ⟨-, ⟨h9, -⟩ | ⟨h9, -⟩⟩ <;> exact absurd h9 (by decide)
      · cases ho
  · cases h
end QMEM

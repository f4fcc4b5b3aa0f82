/-! TEXT CONSTANTS: where they lie, and what String's own members answer over them -/
theorem q_in_vp {i : Int32} {n : Nat} (h : q_in i n = true) : vp_in i n := by
  simp only [q_in, Bool.and_eq_true, Bool.not_eq_true', decide_eq_false_iff_not, decide_eq_true_eq] at h
  rintro (h1 | h1)
  · exact h.1 h1
  · omega
abbrev q_B : Type := Nat × (Nat → Nat)
def q_sLen : MethodName := ⟨"java/lang/String", "length", "()I"⟩
def q_sChr : MethodName := ⟨"java/lang/String", "charAt", "(I)C"⟩
def s_yCo : MethodName := ⟨"java/lang/String", "coder", "()B"⟩
def s_yIs : MethodName := ⟨"java/lang/String", "isLatin1", "()Z"⟩
def s_yLa : MethodName := ⟨"java/lang/StringLatin1", "charAt", "([BI)C"⟩
def s_yCk : MethodName := ⟨"java/lang/String", "checkIndex", "(II)V"⟩
def s_yPr : MethodName := ⟨"jdk/internal/util/Preconditions", "checkIndex", "(IILjava/util/function/BiFunction;)I"⟩
def s_all : List Cond := [.code q_sLen prog_15_method_54_code 1 (some .int), .code s_yCo prog_15_method_152_code 1 (some .byte), .code q_sChr prog_15_method_56_code 2 (some .char), .code s_yIs prog_15_method_154_code 1 (some .boolean), .code s_yLa prog_16_method_2_code 2 (some .char), .code s_yCk prog_15_method_155_code 2 none, .code s_yPr prog_20_method_11_code 3 (some .int),
  .initialized "java/lang/String", .initialized "java/lang/StringLatin1", .initialized "jdk/internal/util/Preconditions",
  .instanceMethod q_sLen, .selects "java/lang/String" q_sLen q_sLen, .instanceMethod s_yCo, .selects "java/lang/String" s_yCo s_yCo, .instanceMethod q_sChr, .selects "java/lang/String" q_sChr q_sChr, .instanceMethod s_yIs, .selects "java/lang/String" s_yIs s_yIs,
  .static s_yLa, .static s_yCk, .static s_yPr,
  .methodLink "java/lang/String" 335 s_yCo, .fieldLink "java/lang/String" 38 "java/lang/String" "COMPACT_STRINGS" "Z", .methodLink "java/lang/String" 492 s_yIs, .methodLink "java/lang/String" 495 s_yLa, .methodLink "java/lang/StringLatin1" 9 s_yCk,
  .fieldLink "java/lang/String" 1053 "jdk/internal/util/Preconditions" "SIOOBE_FORMATTER" "Ljava/util/function/BiFunction;", .methodLink "java/lang/String" 1059 s_yPr, .fieldLink "java/lang/String" 9 "java/lang/String" "value" "[B", .fieldLink "java/lang/String" 15 "java/lang/String" "coder" "B"]
theorem s_gd : ∀ w ∈ s_all, goodWord w = true := List.all_eq_true.mp (by decide +kernel : s_all.all goodWord = true)
theorem s_in (i : Nat) {w : Cond} (h : s_all[i]? = some w) : w ∈ s_all := List.mem_of_getElem? h
theorem s_good {T : List Cond} (hT : ∀ w ∈ s_all, w ∈ T) (i : Nat) {w0 : Cond} (h : s_all[i]? = some w0) : GoodIn T (w0 :: s_all) := fun w hw => by
  rcases List.mem_cons.mp hw with rfl | hw
  · exact ⟨hT _ (s_in i h), good_of_word (s_gd _ (s_in i h))⟩
  · exact ⟨hT _ hw, good_of_word (s_gd _ hw)⟩
/-- a text at ad, its bytes at av; what the two statics hold -/
def s_T (A : Nat → Prop) (bt : List Int32) (ad av : Nat) (w : Value) (U : State) (H : Heap) : Prop := va_Z "java/lang/String" "COMPACT_STRINGS" "Z" (.int 1) A U H ∧ (w.category = 1 ∧ bt.length < 2 ^ 31) ∧ va_Z "jdk/internal/util/Preconditions" "SIOOBE_FORMATTER" "Ljava/util/function/BiFunction;" w A U H
  ∧ va_O "java/lang/String" ad A U H ∧ va_OF "java/lang/String" "coder" "B" (.int 0) ad A U H ∧ va_OF "java/lang/String" "value" "[B" (.ref av) ad A U H ∧ va_T .byte av bt.length (fun j => .int (bt.getD j 0)) A U H
theorem s_T.moved {A : Nat → Prop} {bt : List Int32} {ad av : Nat} {w : Value} {u U : State} {H : Heap} (hvm : u.vm.Alike U.vm) (h : s_T A bt ad av w u H) : s_T A bt ad av w U H :=
  ⟨va_Z.moved hvm h.1, h.2.1, va_Z.moved hvm h.2.2.1, va_O.moved hvm h.2.2.2.1, va_OF.moved hvm h.2.2.2.2.1, va_OF.moved hvm h.2.2.2.2.2.1, va_T.moved hvm h.2.2.2.2.2.2⟩
theorem s_T.kept {A : Nat → Prop} {bt : List Int32} {ad av : Nat} {w : Value} {U : State} {H H1 : Heap} (h : s_T A bt ad av w U H) (hq : ∀ a : Nat, a < H.size → ¬ A a → H1[a]? = H[a]?) : s_T A bt ad av w U H1 :=
  ⟨h.1.kept hq, h.2.1, h.2.2.1.kept hq, h.2.2.2.1.kept hq, h.2.2.2.2.1.kept hq, h.2.2.2.2.2.1.kept hq, h.2.2.2.2.2.2.kept hq⟩
def s_P (A : Nat → Prop) (bt : List Int32) (ad av : Nat) (w : Value) (as : List Value) : Array Value → State → Prop := fun v U => v = as.toArray ∧ s_T A bt ad av w U U.heap
def s_Q (r : Option Value) : Array Value → State → Outcome → State → Prop := fun _ st o t => o = .returned r ∧ t.heap = st.heap
theorem s_blind {A : Nat → Prop} {bt : List Int32} {ad av : Nat} {w : Value} {as : List Value} : FrameBlind (s_P A bt ad av w as) := fun a U g mk h => ⟨h.1, s_T.moved (u := U) (U := U.calling g mk a) (Vm.Alike.refl U.vm) h.2⟩
theorem q_ofW {l : Launch} {y : MethodName} {ws ws' : List Cond} {rm : Room} {Pc : Array Value → State → Prop} {Qc : Array Value → State → Outcome → State → Prop} {mc ms : Nat} {free : Addr → Prop} {cc : ByteArray} {maxL : Nat} {ret : Option FieldType}
    (hy : plainFor y = true) (hw : ws = Cond.code y cc maxL ret :: ws')
    (body : ∀ p e s m args below meth c s₁, BodyLoose p l y (headSpec ws rm) cc maxL ret e s m args below meth c s₁ → c.maxLocals = maxL → Pc args s →
      W p l e (headSpec ws rm).room s m args below meth c s.heap [] 0 0 (MQ below Qc args s mc ms free) (entryFrame m args maxL)) : Met l y ws rm Pc Qc mc ms free := by
  refine MetFree.of_bodySF (code := cc) (maxLocals := maxL) (ret := ret) hy ?_ ?_
  · intro args s m h hn
    obtain ⟨meth, c, h1, h2, h3, h4, h5, h6, -, -⟩ := Cond.code_spec hn (atoms_spec (ws := ws) h _ (by rw [hw]; exact List.mem_cons_self))
    exact ⟨meth, c, h1, h2, h3, h4, h5, h6⟩
  · intro p e s m args below meth c s₁ B hml hP _
    have hh0 : s₁.heap = s.heap := by rw [B.state]; rfl
    obtain ⟨t, a1, o, b1, b2, b3⟩ := body p e s m args below meth c s₁ B hml hP s₁ hh0 (Stand.of_body B)
    exact ⟨t, o, a1, b1, b2, ⟨b3.1, b3.2⟩⟩
section SSTR
variable {p : Program} {l : Launch} {e : Env} {R : Room} {s : State} {m : MethodId} {args : Array Value} {below : List Frame} {meth : Method} {c : Code} {H : Heap} {locs : List Loc} {cells slots : Nat} {Q : State → Prop}
variable {cc : ByteArray} {pc : Nat} {ls : Array Slot}
theorem s_callW {st0 rest : List Value} {r : Option Value} {a : Array Value} (hr : va_Run p l e R s m args below meth c H locs cells slots 0 0 (F0 m pc ls st0) rest (s_Q r a) (fun _ => False))
    (kk : W p l e R s m args below meth c H locs cells slots Q (F0 m (pc + 3) ls (r.toList ++ rest))) : W p l e R s m args below meth c H locs cells slots Q (F0 m pc ls st0) := by
  intro T hT X
  obtain ⟨v, st₀, t, T', L, h0, X', hL, e1, e2, ⟨hv, hh⟩, st⟩ := hr T hT X
  cases hv
  have hL0 : L = [] := by
    cases L with
    | nil => rfl
    | cons q L => exact (hL q List.mem_cons_self).elim
  subst hL0
  rw [List.append_nil] at X'
  obtain ⟨t2, a1, b1⟩ := kk T' (by rw [e1, hh, h0]) X'
  exact ⟨t2, st t2 a1, b1⟩
end SSTR
set_option maxHeartbeats 4000000 in
set_option maxRecDepth 100000 in
theorem s_pr (l : Launch) (A : Nat → Prop) (bt : List Int32) (ad av : Nat) (w : Value) {i n : Int32} (h0 : ¬ i < 0) (h1 : i < n) (hw : w.category = 1) : Met l s_yPr (.code s_yPr prog_20_method_11_code 3 (some .int) :: s_all) ({ frames := 0, cells := 0, slots := 0, locals := 0 } : Room) (s_P A bt ad av w [.int i, .int n, w]) (s_Q (some (.int i))) 0 0 (fun _ => False) := by
  refine q_ofW (cc := prog_20_method_11_code) (maxL := 3) (ret := (some .int)) (by decide +kernel) rfl ?_
  intro p e s m args below meth c s₁ B hml hv
  obtain ⟨rfl, hT⟩ := hv
  obtain ⟨hZ, ⟨hw1, hbl⟩, hZ2, hO, hCo, hVa, hAr⟩ := id hT
  have hx := B.exec
  have hb := B.bytes
  have hr := B.returns
  have hts0 := atoms_spec (ws := .code s_yPr prog_20_method_11_code 3 (some .int) :: s_all) B.pre
  have hts : ∀ wd ∈ s_all, wd.before ([.int i, .int n, w] : List Value).toArray s = true := fun wd h => hts0 wd (List.mem_cons_of_mem _ h)
  have hown := findClass_of_methodNamed B.named
  have hlocks := B.notSynchronized
  have hS : va_S A s.heap s.heap [] := va_S.rf
  have hl := lv_entry ([.int i, .int n, w]) (n := 3) (by
    have e2 : w.category ≠ 2 := by omega
    simp [lg_sl, e2, show (Value.int i).category = 1 from rfl, show (Value.int n).category = 1 from rfl])
  rw [lg_entry_eq]
  generalize (lg_sl ([.int i, .int n, w]) ++ List.replicate (3 - (lg_sl ([.int i, .int n, w])).length) Slot.unset).toArray = ls at hl ⊢
  change lv_has ls 3 (lv_args 0 [.int i, .int n, w]) at hl
  refine lv_iload_n hx hb (show decode prog_20_method_11_code 0 = .ok (.iload_n 0, 1) from by decide +kernel) rfl (lv_at hl 0 rfl) ?_
  refine lv_if_lt (tgt := 9) hx hb (show decode prog_20_method_11_code 1 = .ok (.ifCond .lt 8, 3) from by decide +kernel) rfl (fun h => absurd h h0) (fun _ => ?_)
  refine lv_iload_n hx hb (show decode prog_20_method_11_code 4 = .ok (.iload_n 0, 1) from by decide +kernel) rfl (lv_at hl 0 rfl) ?_
  refine lv_iload_n hx hb (show decode prog_20_method_11_code 5 = .ok (.iload_n 1, 1) from by decide +kernel) rfl (lv_at hl 1 rfl) ?_
  refine lv_icmp_lt (tgt := 16) hx hb (show decode prog_20_method_11_code 6 = .ok (.if_icmp .lt 10, 3) from by decide +kernel) rfl (fun _ => ?_) (fun h => absurd h1 h)
  refine lv_iload_n hx hb (show decode prog_20_method_11_code 16 = .ok (.iload_n 0, 1) from by decide +kernel) rfl (lv_at hl 0 rfl) ?_
  exact W.iret hx hb hr (fun t ht _ => ⟨rfl, ht⟩) (fun q hq => by cases hq) (show decode prog_20_method_11_code 17 = .ok (.ireturn, 1) from by decide +kernel)
set_option maxHeartbeats 4000000 in
set_option maxRecDepth 100000 in
theorem s_ck (l : Launch) (A : Nat → Prop) (bt : List Int32) (ad av : Nat) (w : Value) {i n : Int32} (h0 : ¬ i < 0) (h1 : i < n) : Met l s_yCk (.code s_yCk prog_15_method_155_code 2 none :: s_all) ({ frames := 1, cells := 0, slots := 0, locals := 22 } : Room) (s_P A bt ad av w [.int i, .int n]) (s_Q none) 0 0 (fun _ => False) := by
  refine q_ofW (cc := prog_15_method_155_code) (maxL := 2) (ret := none) (by decide +kernel) rfl ?_
  intro p e s m args below meth c s₁ B hml hv
  obtain ⟨rfl, hT⟩ := hv
  obtain ⟨hZ, ⟨hw1, hbl⟩, hZ2, hO, hCo, hVa, hAr⟩ := id hT
  have hx := B.exec
  have hb := B.bytes
  have hr := B.returns
  have hts0 := atoms_spec (ws := .code s_yCk prog_15_method_155_code 2 none :: s_all) B.pre
  have hts : ∀ wd ∈ s_all, wd.before ([.int i, .int n] : List Value).toArray s = true := fun wd h => hts0 wd (List.mem_cons_of_mem _ h)
  have hown := findClass_of_methodNamed B.named
  have hlocks := B.notSynchronized
  have hS : va_S A s.heap s.heap [] := va_S.rf
  have hl := lv_entry ([.int i, .int n]) (n := 2) (Nat.le_of_ble_eq_true rfl)
  rw [lg_entry_eq]
  generalize (lg_sl ([.int i, .int n]) ++ List.replicate (2 - (lg_sl ([.int i, .int n])).length) Slot.unset).toArray = ls at hl ⊢
  change lv_has ls 2 (lv_args 0 [.int i, .int n]) at hl
  refine lv_iload_n hx hb (show decode prog_15_method_155_code 0 = .ok (.iload_n 0, 1) from by decide +kernel) rfl (lv_at hl 0 rfl) ?_
  refine lv_iload_n hx hb (show decode prog_15_method_155_code 1 = .ok (.iload_n 1, 1) from by decide +kernel) rfl (lv_at hl 1 rfl) ?_
  refine va_gets hx hb hZ2 hS hown (hts _ (s_in 26 rfl)) (fun _ h => h) (show decode prog_15_method_155_code 2 = .ok (.getstatic 1053, 3) from by decide +kernel) ?_
  have hcb := callB_of (R := ({ frames := 1, cells := 0, slots := 0, locals := 22 } : Room)) (rm := ({ frames := 0, cells := 0, slots := 0, locals := 0 } : Room)) (mc := 0) (ms := 0) 3 hts (s_good (fun _ h => h) 6 rfl) rfl rfl rfl (hts _ (s_in 9 rfl)) (hts _ (s_in 27 rfl)) (by decide +kernel) ⟨by decide, by decide⟩
  refine s_callW (va_runS (As := [.int i, .int n, w]) (rest := []) ⟨hx, hb, hml, hown, hts⟩ (s_pr l A bt ad av w h0 h1 hw1) ⟨hcb, hts _ (s_in 20 rfl)⟩ ⟨s_blind, fun U hU hW => ⟨rfl, s_T.moved hW.alike (by rw [hU]; exact hT)⟩⟩ rfl rfl hl.1 rfl (lv_room (Nat.zero_le _)) (show decode prog_15_method_155_code 5 = .ok (.invokestatic 1059, 3) from by decide +kernel) ⟨by decide, by decide⟩) ?_
  refine lv_pop hx hb (show decode prog_15_method_155_code 8 = .ok (.pop, 1) from by decide +kernel) rfl ?_
  exact W.vret hx hb hr (fun t ht _ => ⟨rfl, ht⟩) (fun q hq => by cases hq) (show decode prog_15_method_155_code 9 = .ok (.return_, 1) from by decide +kernel)
set_option maxHeartbeats 4000000 in
set_option maxRecDepth 100000 in
theorem s_la (l : Launch) (A : Nat → Prop) (bt : List Int32) (ad av : Nat) (w : Value) {i : Int32} (hi : q_in i bt.length = true) : Met l s_yLa (.code s_yLa prog_16_method_2_code 2 (some .char) :: s_all) ({ frames := 2, cells := 0, slots := 0, locals := 43 } : Room) (s_P A bt ad av w [.ref av, .int i]) (s_Q (some (.int (bt.getD i.toNatClampNeg 0 &&& 255)))) 0 0 (fun _ => False) := by
  refine q_ofW (cc := prog_16_method_2_code) (maxL := 2) (ret := (some .char)) (by decide +kernel) rfl ?_
  intro p e s m args below meth c s₁ B hml hv
  obtain ⟨rfl, hT⟩ := hv
  obtain ⟨hZ, ⟨hw1, hbl⟩, hZ2, hO, hCo, hVa, hAr⟩ := id hT
  have hx := B.exec
  have hb := B.bytes
  have hr := B.returns
  have hts0 := atoms_spec (ws := .code s_yLa prog_16_method_2_code 2 (some .char) :: s_all) B.pre
  have hts : ∀ wd ∈ s_all, wd.before ([.ref av, .int i] : List Value).toArray s = true := fun wd h => hts0 wd (List.mem_cons_of_mem _ h)
  have hown := findClass_of_methodNamed B.named
  have hlocks := B.notSynchronized
  have hS : va_S A s.heap s.heap [] := va_S.rf
  have hl := lv_entry ([.ref av, .int i]) (n := 2) (Nat.le_of_ble_eq_true rfl)
  rw [lg_entry_eq]
  generalize (lg_sl ([.ref av, .int i]) ++ List.replicate (2 - (lg_sl ([.ref av, .int i])).length) Slot.unset).toArray = ls at hl ⊢
  change lv_has ls 2 (lv_args 0 [.ref av, .int i]) at hl
  have hvp := q_in_vp hi
  simp only [q_in, Bool.and_eq_true, Bool.not_eq_true', decide_eq_false_iff_not, decide_eq_true_eq] at hi
  have h1 : i < Int32.ofNat bt.length := by
    obtain ⟨k, hk, rfl⟩ := nI_of hi.1
    have h2 := hi.2
    rw [nI_clamp hk] at h2
    exact nI_lt h2 hbl
  refine lv_iload_n hx hb (show decode prog_16_method_2_code 0 = .ok (.iload_n 1, 1) from by decide +kernel) rfl (lv_at hl 1 rfl) ?_
  refine lv_aload_n hx hb (show decode prog_16_method_2_code 1 = .ok (.aload_n 0, 1) from by decide +kernel) rfl (lv_at hl 0 rfl) ?_
  refine va_tlen hx hb hAr hS rfl (show decode prog_16_method_2_code 2 = .ok (.arraylength, 1) from by decide +kernel) ?_
  have hcb := callB_of (R := ({ frames := 2, cells := 0, slots := 0, locals := 43 } : Room)) (rm := ({ frames := 1, cells := 0, slots := 0, locals := 22 } : Room)) (mc := 0) (ms := 0) 2 hts (s_good (fun _ h => h) 5 rfl) rfl rfl rfl (hts _ (s_in 7 rfl)) (hts _ (s_in 25 rfl)) (by decide +kernel) ⟨by decide, by decide⟩
  refine s_callW (va_runS (As := [.int i, .int (Int32.ofNat bt.length)]) (rest := []) ⟨hx, hb, hml, hown, hts⟩ (s_ck l A bt ad av w hi.1 h1) ⟨hcb, hts _ (s_in 19 rfl)⟩ ⟨s_blind, fun U hU hW => ⟨rfl, s_T.moved hW.alike (by rw [hU]; exact hT)⟩⟩ rfl rfl hl.1 rfl (lv_room (Nat.zero_le _)) (show decode prog_16_method_2_code 3 = .ok (.invokestatic 9, 3) from by decide +kernel) ⟨by decide, by decide⟩) ?_
  refine lv_aload_n hx hb (show decode prog_16_method_2_code 6 = .ok (.aload_n 0, 1) from by decide +kernel) rfl (lv_at hl 0 rfl) ?_
  refine lv_iload_n hx hb (show decode prog_16_method_2_code 7 = .ok (.iload_n 1, 1) from by decide +kernel) rfl (lv_at hl 1 rfl) ?_
  refine va_tb hx hb hAr hS hvp rfl (show decode prog_16_method_2_code 8 = .ok (.baload, 1) from by decide +kernel) ?_
  refine lv_sipush (v := 255) hx hb (show decode prog_16_method_2_code 9 = .ok (.sipush 255, 3) from by decide +kernel) (by decide) ?_
  refine lv_iand hx hb (show decode prog_16_method_2_code 12 = .ok (.iand, 1) from by decide +kernel) ?_
  refine lv_i2c hx hb (show decode prog_16_method_2_code 13 = .ok (.i2c, 1) from by decide +kernel) (sc_c2 _) ?_
  exact W.zret hx hb hr (sc_nar _) (fun t ht _ => ⟨rfl, ht⟩) (fun q hq => by cases hq) (show decode prog_16_method_2_code 14 = .ok (.ireturn, 1) from by decide +kernel) hlocks
set_option maxHeartbeats 4000000 in
set_option maxRecDepth 100000 in
theorem s_is (l : Launch) (A : Nat → Prop) (bt : List Int32) (ad av : Nat) (w : Value)  : Met l s_yIs (.code s_yIs prog_15_method_154_code 1 (some .boolean) :: s_all) ({ frames := 0, cells := 0, slots := 0, locals := 0 } : Room) (s_P A bt ad av w [.ref ad]) (s_Q (some (.int 1))) 0 0 (fun _ => False) := by
  refine q_ofW (cc := prog_15_method_154_code) (maxL := 1) (ret := (some .boolean)) (by decide +kernel) rfl ?_
  intro p e s m args below meth c s₁ B hml hv
  obtain ⟨rfl, hT⟩ := hv
  obtain ⟨hZ, ⟨hw1, hbl⟩, hZ2, hO, hCo, hVa, hAr⟩ := id hT
  have hx := B.exec
  have hb := B.bytes
  have hr := B.returns
  have hts0 := atoms_spec (ws := .code s_yIs prog_15_method_154_code 1 (some .boolean) :: s_all) B.pre
  have hts : ∀ wd ∈ s_all, wd.before ([.ref ad] : List Value).toArray s = true := fun wd h => hts0 wd (List.mem_cons_of_mem _ h)
  have hown := findClass_of_methodNamed B.named
  have hlocks := B.notSynchronized
  have hS : va_S A s.heap s.heap [] := va_S.rf
  have hl := lv_entry ([.ref ad]) (n := 1) (Nat.le_of_ble_eq_true rfl)
  rw [lg_entry_eq]
  generalize (lg_sl ([.ref ad]) ++ List.replicate (1 - (lg_sl ([.ref ad])).length) Slot.unset).toArray = ls at hl ⊢
  change lv_has ls 1 (lv_args 0 [.ref ad]) at hl
  refine va_gets hx hb hZ hS hown (hts _ (s_in 22 rfl)) (fun _ h => h) (show decode prog_15_method_154_code 0 = .ok (.getstatic 38, 3) from by decide +kernel) ?_
  refine lv_if_eq (tgt := 17) hx hb (show decode prog_15_method_154_code 3 = .ok (.ifCond .eq 14, 3) from by decide +kernel) rfl (fun h => absurd h (by decide)) (fun _ => ?_)
  refine lv_aload_n hx hb (show decode prog_15_method_154_code 6 = .ok (.aload_n 0, 1) from by decide +kernel) rfl (lv_at hl 0 rfl) ?_
  refine vk_getf hx hb hCo hS hown (hts _ (s_in 29 rfl)) (fun _ h => h) (show decode prog_15_method_154_code 7 = .ok (.getfield 15, 3) from by decide +kernel) ?_
  refine lv_if_ne (tgt := 17) hx hb (show decode prog_15_method_154_code 10 = .ok (.ifCond .ne 7, 3) from by decide +kernel) rfl (fun h => absurd rfl h) (fun _ => ?_)
  refine lv_iconst (v := 1) hx hb (show decode prog_15_method_154_code 13 = .ok (.iconst 1, 1) from by decide +kernel) (by decide) ?_
  refine lv_goto (tgt := 18) hx hb (show decode prog_15_method_154_code 14 = .ok (.goto 4, 3) from by decide +kernel) rfl ?_
  exact W.zret hx hb hr (by decide) (fun t ht _ => ⟨rfl, ht⟩) (fun q hq => by cases hq) (show decode prog_15_method_154_code 18 = .ok (.ireturn, 1) from by decide +kernel) hlocks
set_option maxHeartbeats 4000000 in
set_option maxRecDepth 100000 in
theorem s_co (l : Launch) (A : Nat → Prop) (bt : List Int32) (ad av : Nat) (w : Value)  : Met l s_yCo (.code s_yCo prog_15_method_152_code 1 (some .byte) :: s_all) ({ frames := 0, cells := 0, slots := 0, locals := 0 } : Room) (s_P A bt ad av w [.ref ad]) (s_Q (some (.int 0))) 0 0 (fun _ => False) := by
  refine q_ofW (cc := prog_15_method_152_code) (maxL := 1) (ret := (some .byte)) (by decide +kernel) rfl ?_
  intro p e s m args below meth c s₁ B hml hv
  obtain ⟨rfl, hT⟩ := hv
  obtain ⟨hZ, ⟨hw1, hbl⟩, hZ2, hO, hCo, hVa, hAr⟩ := id hT
  have hx := B.exec
  have hb := B.bytes
  have hr := B.returns
  have hts0 := atoms_spec (ws := .code s_yCo prog_15_method_152_code 1 (some .byte) :: s_all) B.pre
  have hts : ∀ wd ∈ s_all, wd.before ([.ref ad] : List Value).toArray s = true := fun wd h => hts0 wd (List.mem_cons_of_mem _ h)
  have hown := findClass_of_methodNamed B.named
  have hlocks := B.notSynchronized
  have hS : va_S A s.heap s.heap [] := va_S.rf
  have hl := lv_entry ([.ref ad]) (n := 1) (Nat.le_of_ble_eq_true rfl)
  rw [lg_entry_eq]
  generalize (lg_sl ([.ref ad]) ++ List.replicate (1 - (lg_sl ([.ref ad])).length) Slot.unset).toArray = ls at hl ⊢
  change lv_has ls 1 (lv_args 0 [.ref ad]) at hl
  refine va_gets hx hb hZ hS hown (hts _ (s_in 22 rfl)) (fun _ h => h) (show decode prog_15_method_152_code 0 = .ok (.getstatic 38, 3) from by decide +kernel) ?_
  refine lv_if_eq (tgt := 13) hx hb (show decode prog_15_method_152_code 3 = .ok (.ifCond .eq 10, 3) from by decide +kernel) rfl (fun h => absurd h (by decide)) (fun _ => ?_)
  refine lv_aload_n hx hb (show decode prog_15_method_152_code 6 = .ok (.aload_n 0, 1) from by decide +kernel) rfl (lv_at hl 0 rfl) ?_
  refine vk_getf hx hb hCo hS hown (hts _ (s_in 29 rfl)) (fun _ h => h) (show decode prog_15_method_152_code 7 = .ok (.getfield 15, 3) from by decide +kernel) ?_
  refine lv_goto (tgt := 14) hx hb (show decode prog_15_method_152_code 10 = .ok (.goto 4, 3) from by decide +kernel) rfl ?_
  exact W.zret hx hb hr (by decide) (fun t ht _ => ⟨rfl, ht⟩) (fun q hq => by cases hq) (show decode prog_15_method_152_code 14 = .ok (.ireturn, 1) from by decide +kernel) hlocks
set_option maxHeartbeats 4000000 in
set_option maxRecDepth 100000 in
theorem s_len (l : Launch) (A : Nat → Prop) (bt : List Int32) (ad av : Nat) (w : Value)  : Met l q_sLen (.code q_sLen prog_15_method_54_code 1 (some .int) :: s_all) ({ frames := 1, cells := 0, slots := 0, locals := 20 } : Room) (s_P A bt ad av w [.ref ad]) (s_Q (some (.int (Int32.ofNat bt.length)))) 0 0 (fun _ => False) := by
  refine q_ofW (cc := prog_15_method_54_code) (maxL := 1) (ret := (some .int)) (by decide +kernel) rfl ?_
  intro p e s m args below meth c s₁ B hml hv
  obtain ⟨rfl, hT⟩ := hv
  obtain ⟨hZ, ⟨hw1, hbl⟩, hZ2, hO, hCo, hVa, hAr⟩ := id hT
  have hx := B.exec
  have hb := B.bytes
  have hr := B.returns
  have hts0 := atoms_spec (ws := .code q_sLen prog_15_method_54_code 1 (some .int) :: s_all) B.pre
  have hts : ∀ wd ∈ s_all, wd.before ([.ref ad] : List Value).toArray s = true := fun wd h => hts0 wd (List.mem_cons_of_mem _ h)
  have hown := findClass_of_methodNamed B.named
  have hlocks := B.notSynchronized
  have hS : va_S A s.heap s.heap [] := va_S.rf
  have hl := lv_entry ([.ref ad]) (n := 1) (Nat.le_of_ble_eq_true rfl)
  rw [lg_entry_eq]
  generalize (lg_sl ([.ref ad]) ++ List.replicate (1 - (lg_sl ([.ref ad])).length) Slot.unset).toArray = ls at hl ⊢
  change lv_has ls 1 (lv_args 0 [.ref ad]) at hl
  refine lv_aload_n hx hb (show decode prog_15_method_54_code 0 = .ok (.aload_n 0, 1) from by decide +kernel) rfl (lv_at hl 0 rfl) ?_
  refine vk_getf hx hb hVa hS hown (hts _ (s_in 28 rfl)) (fun _ h => h) (show decode prog_15_method_54_code 1 = .ok (.getfield 9, 3) from by decide +kernel) ?_
  refine va_tlen hx hb hAr hS rfl (show decode prog_15_method_54_code 4 = .ok (.arraylength, 1) from by decide +kernel) ?_
  refine lv_aload_n hx hb (show decode prog_15_method_54_code 5 = .ok (.aload_n 0, 1) from by decide +kernel) rfl (lv_at hl 0 rfl) ?_
  have hcb := callB_of (R := ({ frames := 1, cells := 0, slots := 0, locals := 20 } : Room)) (rm := ({ frames := 0, cells := 0, slots := 0, locals := 0 } : Room)) (mc := 0) (ms := 0) 0 hts (s_good (fun _ h => h) 1 rfl) rfl rfl rfl (hts _ (s_in 7 rfl)) (hts _ (s_in 21 rfl)) (by decide +kernel) ⟨by decide, by decide⟩
  obtain ⟨cell, o1, o2, o3, -⟩ := id hO
  refine s_callW (va_runV (C := "java/lang/String") (As := []) (b := ad) (rest := [.int (Int32.ofNat bt.length)]) ⟨hx, hb, hml, hown, hts⟩ (s_co l A bt ad av w) ⟨hcb, hts _ (s_in 12 rfl), hts _ (s_in 13 rfl)⟩ ⟨s_blind, ⟨cell, o1, o2, o3⟩, fun U hU hW => ⟨rfl, s_T.moved hW.alike (by rw [hU]; exact hT)⟩⟩ rfl rfl hl.1 rfl (lv_room (Nat.le_of_ble_eq_true rfl)) (show decode prog_15_method_54_code 6 = .ok (.invokevirtual 335, 3) from by decide +kernel) ⟨by decide, by decide⟩) ?_
  refine lv_ishr hx hb (show decode prog_15_method_54_code 9 = .ok (.ishr, 1) from by decide +kernel) ?_
  rw [show (Int32.ofNat bt.length) >>> ((0 : Int32) &&& 31) = Int32.ofNat bt.length from sc_shr0 hbl]
  exact W.iret hx hb hr (fun t ht _ => ⟨rfl, ht⟩) (fun q hq => by cases hq) (show decode prog_15_method_54_code 10 = .ok (.ireturn, 1) from by decide +kernel)
set_option maxHeartbeats 4000000 in
set_option maxRecDepth 100000 in
theorem s_chr (l : Launch) (A : Nat → Prop) (bt : List Int32) (ad av : Nat) (w : Value) {i : Int32} (hi : q_in i bt.length = true) : Met l q_sChr (.code q_sChr prog_15_method_56_code 2 (some .char) :: s_all) ({ frames := 3, cells := 0, slots := 0, locals := 64 } : Room) (s_P A bt ad av w [.ref ad, .int i]) (s_Q (some (.int (bt.getD i.toNatClampNeg 0 &&& 255)))) 0 0 (fun _ => False) := by
  refine q_ofW (cc := prog_15_method_56_code) (maxL := 2) (ret := (some .char)) (by decide +kernel) rfl ?_
  intro p e s m args below meth c s₁ B hml hv
  obtain ⟨rfl, hT⟩ := hv
  obtain ⟨hZ, ⟨hw1, hbl⟩, hZ2, hO, hCo, hVa, hAr⟩ := id hT
  have hx := B.exec
  have hb := B.bytes
  have hr := B.returns
  have hts0 := atoms_spec (ws := .code q_sChr prog_15_method_56_code 2 (some .char) :: s_all) B.pre
  have hts : ∀ wd ∈ s_all, wd.before ([.ref ad, .int i] : List Value).toArray s = true := fun wd h => hts0 wd (List.mem_cons_of_mem _ h)
  have hown := findClass_of_methodNamed B.named
  have hlocks := B.notSynchronized
  have hS : va_S A s.heap s.heap [] := va_S.rf
  have hl := lv_entry ([.ref ad, .int i]) (n := 2) (Nat.le_of_ble_eq_true rfl)
  rw [lg_entry_eq]
  generalize (lg_sl ([.ref ad, .int i]) ++ List.replicate (2 - (lg_sl ([.ref ad, .int i])).length) Slot.unset).toArray = ls at hl ⊢
  change lv_has ls 2 (lv_args 0 [.ref ad, .int i]) at hl
  refine lv_aload_n hx hb (show decode prog_15_method_56_code 0 = .ok (.aload_n 0, 1) from by decide +kernel) rfl (lv_at hl 0 rfl) ?_
  have hcb := callB_of (R := ({ frames := 3, cells := 0, slots := 0, locals := 64 } : Room)) (rm := ({ frames := 0, cells := 0, slots := 0, locals := 0 } : Room)) (mc := 0) (ms := 0) 0 hts (s_good (fun _ h => h) 3 rfl) rfl rfl rfl (hts _ (s_in 7 rfl)) (hts _ (s_in 23 rfl)) (by decide +kernel) ⟨by decide, by decide⟩
  obtain ⟨cell, o1, o2, o3, -⟩ := id hO
  refine s_callW (va_runV (C := "java/lang/String") (As := []) (b := ad) (rest := []) ⟨hx, hb, hml, hown, hts⟩ (s_is l A bt ad av w) ⟨hcb, hts _ (s_in 16 rfl), hts _ (s_in 17 rfl)⟩ ⟨s_blind, ⟨cell, o1, o2, o3⟩, fun U hU hW => ⟨rfl, s_T.moved hW.alike (by rw [hU]; exact hT)⟩⟩ rfl rfl hl.1 rfl (lv_room (Nat.zero_le _)) (show decode prog_15_method_56_code 1 = .ok (.invokevirtual 492, 3) from by decide +kernel) ⟨by decide, by decide⟩) ?_
  refine lv_if_eq (tgt := 16) hx hb (show decode prog_15_method_56_code 4 = .ok (.ifCond .eq 12, 3) from by decide +kernel) rfl (fun h => absurd h (by decide)) (fun _ => ?_)
  refine lv_aload_n hx hb (show decode prog_15_method_56_code 7 = .ok (.aload_n 0, 1) from by decide +kernel) rfl (lv_at hl 0 rfl) ?_
  refine vk_getf hx hb hVa hS hown (hts _ (s_in 28 rfl)) (fun _ h => h) (show decode prog_15_method_56_code 8 = .ok (.getfield 9, 3) from by decide +kernel) ?_
  refine lv_iload_n hx hb (show decode prog_15_method_56_code 11 = .ok (.iload_n 1, 1) from by decide +kernel) rfl (lv_at hl 1 rfl) ?_
  have hcb2 := callB_of (R := ({ frames := 3, cells := 0, slots := 0, locals := 64 } : Room)) (rm := ({ frames := 2, cells := 0, slots := 0, locals := 43 } : Room)) (mc := 0) (ms := 0) 2 hts (s_good (fun _ h => h) 4 rfl) rfl rfl rfl (hts _ (s_in 8 rfl)) (hts _ (s_in 24 rfl)) (by decide +kernel) ⟨by decide, by decide⟩
  refine s_callW (va_runS (As := [.ref av, .int i]) (rest := []) ⟨hx, hb, hml, hown, hts⟩ (s_la l A bt ad av w hi) ⟨hcb2, hts _ (s_in 18 rfl)⟩ ⟨s_blind, fun U hU hW => ⟨rfl, s_T.moved hW.alike (by rw [hU]; exact hT)⟩⟩ rfl rfl hl.1 rfl (lv_room (Nat.zero_le _)) (show decode prog_15_method_56_code 12 = .ok (.invokestatic 495, 3) from by decide +kernel) ⟨by decide, by decide⟩) ?_
  exact W.zret hx hb hr (sc_nar _) (fun t ht _ => ⟨rfl, ht⟩) (fun q hq => by cases hq) (show decode prog_15_method_56_code 15 = .ok (.ireturn, 1) from by decide +kernel) hlocks

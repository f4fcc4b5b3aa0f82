/-! THE TEXTS, out of the premises -/
def s_vl (x : q_Sx) : Term := .field (.string x.1 x.2.1) "java/lang/String" "value" "[B"
def s_cs (x : q_Sx) : List Cond := [.exactly (.string x.1 x.2.1) "java/lang/String", .eq (.field (.string x.1 x.2.1) "java/lang/String" "coder" "B") (.int 0), .arrayOf (s_vl x) .byte, .eq (.length (s_vl x)) (.int (Int32.ofNat x.2.2.2.length))] ++ (List.range x.2.2.2.length).map (fun j => .eq (.elem (s_vl x) (.int (Int32.ofNat j))) (.int (x.2.2.2.getD j 0)))
def s_flat : List Cond := flatC (Jvm.Cond.and given_1 narrow_1)
def s_ps : List (List Nat × Nat) := [([55, 56, 57, 58, 59, 60, 61, 62, 63], 2226), ([64, 65, 66, 67, 68, 69, 70, 71], 2231), ([96, 97, 98, 99, 100, 101, 102], 3011), ([103, 104, 105, 106, 107, 108, 109], 3012), ([179, 180, 181, 182, 183, 184, 185, 186], 3028), ([31, 32, 33, 34, 35, 36, 37, 38], 2159), ([39, 40, 41, 42, 43, 44, 45, 46, 47, 48], 2220), ([49, 50, 51, 52, 53, 54], 2225), ([72, 73, 74, 75, 76, 77, 78, 79], 3004), ([80, 81, 82, 83, 84, 85, 86, 87], 3009), ([88, 89, 90, 91, 92, 93, 94, 95], 3010), ([140, 141, 142, 143, 144, 145, 146, 147, 148], 3024), ([149, 150, 151, 152, 153, 154, 155, 156, 157, 158, 159], 3025), ([160, 161, 162, 163, 164, 165, 166, 167, 168, 169], 3026), ([170, 171, 172, 173, 174, 175, 176, 177, 178], 3027), ([110, 111, 112, 113, 114, 115, 116, 117, 118, 119, 120], 3021), ([121, 122, 123, 124, 125, 126, 127, 128, 129, 130, 131, 132], 3022), ([133, 134, 135, 136, 137, 138, 139], 3023), ([187, 188, 189, 190, 191, 192, 193, 194], 7017), ([196, 197, 198, 199, 200, 201, 202, 203, 204, 205], 7036), ([207, 208, 209, 210, 211, 212], 7041), ([214, 215, 216, 217, 218, 219, 220, 221], 7046), ([223, 224, 225, 226, 227, 228, 229], 7047), ([258, 259, 260, 261, 262, 263, 264, 265, 266], 7063), ([268, 269, 270, 271, 272, 273, 274], 7064), ([276, 277, 278, 279, 280, 281, 282, 283], 7065), ([231, 232, 233, 234, 235, 236, 237, 238], 7056), ([240, 241, 242, 243, 244, 245, 246, 247], 7061), ([249, 250, 251, 252, 253, 254, 255, 256], 7062), ([285, 286, 287, 288, 289, 290, 291, 292, 293, 294, 295], 7070), ([297, 298, 299, 300, 301, 302, 303, 304, 305, 306, 307, 308], 7071), ([310, 311, 312, 313, 314, 315, 316], 7072), ([318, 319, 320, 321, 322, 323, 324, 325, 326], 7073), ([328, 329, 330, 331, 332, 333, 334, 335, 336, 337, 338], 7074), ([340, 341, 342, 343, 344, 345, 346, 347, 348, 349], 7075), ([351, 352, 353, 354, 355, 356, 357, 358, 359], 7076)]
def s_ckt (n : Nat) : Bool := match q_dS[n]?, s_ps[n]? with
  | some x, some p => decide (s_cs x = p.1.filterMap (fun i => s_flat[i]?)) && (decide (q_tat q_D p.2 = some (.stringRef x.1 x.2.1 x.2.2.1)) && decide (x.2.2.2.length < 2147483648))
  | _, _ => false
set_option maxRecDepth 100000 in
theorem s_ckt_all : l_all 36 s_ckt = true := by decide +kernel
theorem s_dS_len : q_dS.length = 36 := rfl
theorem s_txt {n : Nat} {x : q_Sx} (h : q_dS[n]? = some x) : (∀ w ∈ s_cs x, w ∈ s_flat) ∧ Cond.stringRef x.1 x.2.1 x.2.2.1 ∈ lw_tbl ∧ x.2.2.2.length < 2147483648 := by
  have hn : n < 36 := by
    have := (List.getElem?_eq_some_iff.mp h).1
    rw [s_dS_len] at this
    exact this
  have h1 := l_all_ok _ s_ckt_all n hn
  unfold s_ckt at h1
  rw [h] at h1
  split at h1
  · rename_i y p hy hp
    cases hy
    simp only [Bool.and_eq_true, decide_eq_true_eq] at h1
    obtain ⟨h2, h3, h4⟩ := h1
    refine ⟨fun w hw => ?_, q_tat_lw h3, h4⟩
    rw [h2] at hw
    obtain ⟨i, -, hi⟩ := List.mem_filterMap.mp hw
    exact List.mem_of_getElem? hi
  · cases h1
set_option maxRecDepth 100000 in
theorem s_fc : s_flat[4]? = some (.eq (.static "java/lang/String" "COMPACT_STRINGS" "Z") (.int 1)) := by decide +kernel
set_option maxRecDepth 100000 in
theorem s_fr : s_flat[5]? = some (.isRef (.static "jdk/internal/util/Preconditions" "SIOOBE_FORMATTER" "Ljava/util/function/BiFunction;")) := by decide +kernel
theorem q_texts {s : State} {b : Nat} (hts : ∀ w ∈ lw_tbl, w.before #[Value.ref b] s = true) (hgv : (Jvm.Cond.and given_1 narrow_1).before #[Value.ref b] s = true) : ∃ ad : Nat → Nat, ad 0 = b ∧ q_Sh q_D (s.heap.size, ad) s s.heap := by
  have hs : ∀ w ∈ s_flat, w.before #[Value.ref b] s = true := flat_of_before _ hgv
  have hA : ∀ a : Nat, a < s.heap.size → ¬ (fun z => s.heap.size ≤ z) a := fun a h1 h2 => by
    simp only at h2
    omega
  have hZ := va_Zof (A := fun z => s.heap.size ≤ z) (hts _ (q_tat_lw (pos := 2177) (w := .laysStatic "java/lang/String" "COMPACT_STRINGS" "Z") (by decide +kernel))) (hts _ (q_tat_lw (pos := 1014) (w := .initialized "java/lang/String") (by decide +kernel))) (va_eqi (hs _ (List.mem_of_getElem? s_fc))) hA
  obtain ⟨w, hw, hwr⟩ := Cond.isRef_spec (hs _ (List.mem_of_getElem? s_fr))
  have hZ2 := va_Zof (A := fun z => s.heap.size ≤ z) (hts _ (q_tat_lw (pos := 2193) (w := .laysStatic "jdk/internal/util/Preconditions" "SIOOBE_FORMATTER" "Ljava/util/function/BiFunction;") (by decide +kernel))) (hts _ (q_tat_lw (pos := 1016) (w := .initialized "jdk/internal/util/Preconditions") (by decide +kernel))) hw hA
  have hwc : w.category = 1 := by
    cases w <;> first | rfl | cases hwr
  have h0 : ∀ n : Nat, ∃ q : Nat × Nat, ∀ x, q_dS[n]? = some x → vk_R x.1 x.2.1 x.2.2.1 q.1 s ∧ s_T (fun z => s.heap.size ≤ z) x.2.2.2 q.1 q.2 w s s.heap := by
    intro n
    cases hx : q_dS[n]? with
    | none => exact ⟨(0, 0), fun x h => by cases h⟩
    | some x =>
      obtain ⟨t1, t2, t3⟩ := s_txt hx
      have hm : ∀ w ∈ s_cs x, w.before #[Value.ref b] s = true := fun w hw => hs w (t1 w hw)
      obtain ⟨adK, adV, hS, hE⟩ := vk_Sof (args := #[Value.ref b]) (s := s) (N := 1) (tm := fun _ => .string x.1 x.2.1) (len := [x.2.2.2.length]) (byt := [x.2.2.2]) (A := fun z => s.heap.size ≤ z) (fun i hi => by
          have : i = 0 := by omega
          subst this
          exact t3) (fun i hi => hm _ (by simp [s_cs])) (fun i hi => hm _ (by simp [s_cs])) (fun i hi => hm _ (by simp [s_cs, s_vl])) (fun i hi => by
          have : i = 0 := by omega
          subst this
          exact hm _ (by simp [s_cs, s_vl])) (fun i hi j hj => by
          have : i = 0 := by omega
          subst this
          refine hm _ ?_
          unfold s_cs
          refine List.mem_append_right _ (List.mem_map.mpr ⟨j, List.mem_range.mpr hj, rfl⟩)) (fun i j hi hj hij => absurd (show i = j by omega) hij) hA
      refine ⟨(adK 0, adV 0), fun y hy => ?_⟩
      cases hy
      obtain ⟨z1, z2, z3, z4⟩ := hS.1 0 (by omega)
      exact ⟨vk_R.of (hts _ t2) (hE 0 (by omega)), hZ, ⟨hwc, t3⟩, hZ2, z1, z2, z3, z4⟩
  obtain ⟨ad, had⟩ := Classical.axiomOfChoice h0
  refine ⟨fun n => match n with
    | 0 => b
    | n + 1 => (ad n).1, rfl, w, fun n x hx => ?_⟩
  obtain ⟨h1, h2⟩ := had n x hx
  exact ⟨h1, (ad n).2, h2⟩

theorem q_fuel {G : q_G} : ∀ (n k : Nat) (M : q_MI) (pc : Nat) (l : q_L) (st : List Value) (m : q_M) (r : Option Value × q_M), n ≤ k → q_run G n M pc l st m = some r → q_run G k M pc l st m = some r
  | 0, _, _, _, _, _, _, _, _, h => by simp [q_run] at h
  | n + 1, 0, _, _, _, _, _, _, hk, _ => by omega
  | n + 1, k + 1, M, pc, l, st, m, r, hk, h => by
    have hk : n ≤ k := by omega
    unfold q_run at h ⊢
    split at h
    · cases h
    rename_i I pc0 raw len i pos hf
    try simp only [hf]
    split at h
    · rename_i hg
      try simp only [hg]
      split at h
      rotate_left
      · cases h
      rename_i hp
      try simp only [hp]
      exact q_fuel n k _ _ _ _ _ _ hk h
    · rename_i hg
      try simp only [hg]
      split at h
      rotate_left
      · cases h
      rename_i hp
      try simp only [hp]
      exact q_fuel n k _ _ _ _ _ _ hk h
    · rename_i hg
      try simp only [hg]
      split at h
      rotate_left
      · cases h
      rename_i hp
      try simp only [hp]
      exact q_fuel n k _ _ _ _ _ _ hk h
    · rename_i hg
      try simp only [hg]
      split at h
      · rename_i j hj
        try simp only [hj]
        split at h
        rotate_left
        · cases h
        rename_i hc
        try simp only [hc]
        split at h
        rotate_left
        · cases h
        rename_i hr
        rw [q_fuel n k _ _ _ _ _ _ hk hr]
        exact q_fuel n k _ _ _ _ _ _ hk h
      · rename_i hj
        try simp only [hj]
        exact h
    · rename_i hg0 hg1 hg2 hg3
      split at h
      rotate_left
      · cases h
      rename_i hp
      try simp only [hp]
      exact q_fuel n k _ _ _ _ _ _ hk h
theorem q_lfuel {G : q_G} {b L : Nat} {xs : Nat → Int32} {M : q_MI} : ∀ (n k : Nat) (pc : Nat) (l : q_L) (st : List Value) (m : q_M) (r : Int32 × q_M), n ≤ k → q_lrun G b L xs M n pc l st m = some r → q_lrun G b L xs M k pc l st m = some r
  | 0, _, _, _, _, _, _, _, h => by simp [q_lrun] at h
  | n + 1, 0, _, _, _, _, _, hk, _ => by omega
  | n + 1, k + 1, pc, l, st, m, r, hk, h => by
    have hk : n ≤ k := by omega
    unfold q_lrun at h ⊢
    split at h
    · cases h
    rename_i I pc0 raw len i pos hf
    try simp only [hf]
    split at h
    · rename_i hg
      try simp only [hg]
      split at h
      rotate_left
      · cases h
      rename_i hp
      try simp only [hp]
      exact q_lfuel n k _ _ _ _ _ hk h
    · rename_i hg
      try simp only [hg]
      split at h
      rotate_left
      · cases h
      rename_i hp
      try simp only [hp]
      exact q_lfuel n k _ _ _ _ _ hk h
    · rename_i hg
      try simp only [hg]
      split at h
      rotate_left
      · cases h
      rename_i hp
      try simp only [hp]
      exact q_lfuel n k _ _ _ _ _ hk h
    · rename_i hg
      try simp only [hg]
      split at h
      · rename_i j hj
        try simp only [hj]
        split at h
        rotate_left
        · cases h
        rename_i hc
        try simp only [hc]
        split at h
        rotate_left
        · cases h
        rename_i hr
        rw [q_fuel n k _ _ _ _ _ _ hk hr]
        exact q_lfuel n k _ _ _ _ _ hk h
      · rename_i hj
        try simp only [hj]
        exact h
    · rename_i hg0 hg1 hg2 hg3
      split at h
      rotate_left
      · cases h
      rename_i hp
      try simp only [hp]
      exact q_lfuel n k _ _ _ _ _ hk h
abbrev q_Fr : Type := q_MI × Nat × q_L × List Value
/-- frames (the law's the last): with r given back to the topmost, they come to the law's end as P says -/
def q_Kt (G : q_G) (b L : Nat) (xs : Nat → Int32) (ML : q_MI) (P : Int32 → q_M → Prop) : List q_Fr → Option Value → q_M → Prop
  | [], _, _ => False
  | f :: fs, r, m => match fs with
    | [] => ∃ (n : Nat) (v : Int32) (qF : q_M), q_lrun G b L xs ML n f.2.1 f.2.2.1 (r.toList ++ f.2.2.2) m = some (v, qF) ∧ P v qF
    | f2 :: fs2 => ∃ (n : Nat) (r1 : Option Value) (m1 : q_M), q_run G n f.1 f.2.1 f.2.2.1 (r.toList ++ f.2.2.2) m = some (r1, m1) ∧ q_Kt G b L xs ML P (f2 :: fs2) r1 m1
def q_srt : List q_I → Bool
  | [] => true
  | [_] => true
  | I :: J :: C => Nat.blt I.1 J.1 && q_srt (J :: C)
theorem q_srt_lt : ∀ (C : List q_I) (I : q_I), q_srt (I :: C) = true → ∀ J ∈ C, I.1 < J.1
  | [], I, _, J, hJ => by cases hJ
  | K :: C, I, h, J, hJ => by
    simp only [q_srt, Bool.and_eq_true] at h
    have h1 : I.1 < K.1 := Nat.blt_eq.mp h.1
    rcases List.mem_cons.mp hJ with rfl | hJ
    · exact h1
    · exact Nat.lt_trans h1 (q_srt_lt C K h.2 J hJ)
theorem q_fd_suf : ∀ {C : List q_I} {I : q_I} {tl : List q_I}, q_srt C = true → (I :: tl) <:+ C → q_fd C I.1 = some I
  | [], I, tl, _, h => by simp at h
  | J :: C, I, tl, hs, h => by
    unfold q_fd
    rcases List.suffix_cons_iff.mp h with e | h2
    · cases e
      rw [if_pos rfl]
    · have hm : I ∈ C := h2.subset List.mem_cons_self
      have hlt := q_srt_lt C J hs I hm
      rw [if_neg (by omega)]
      refine q_fd_suf ?_ h2
      cases C with
      | nil => cases hm
      | cons K C =>
        simp only [q_srt, Bool.and_eq_true] at hs
        exact hs.2
theorem a_jmp_suf (pc : Nat) : ∀ C : List q_I, a_jmp C pc <:+ C
  | [] => List.suffix_refl _
  | I :: C => by
    unfold a_jmp
    split
    · exact (a_jmp_suf pc C).trans (List.suffix_cons I C)
    · exact List.suffix_refl _
theorem a_at_ok {M : q_MI} {tl c : List q_I} {pc : Nat} (h : a_at M tl pc = some c) (ht : tl <:+ q_mC M) : ∃ J l, c = J :: l ∧ J.1 = pc ∧ c <:+ q_mC M := by
  have hj : ∀ {c : List q_I}, (match a_jmp (q_mC M) pc with | J :: l => if J.1 = pc then some (J :: l) else none | [] => none) = some c → ∃ J l, c = J :: l ∧ J.1 = pc ∧ c <:+ q_mC M := by
    intro c h
    have hs := a_jmp_suf pc (q_mC M)
    split at h
    · rename_i J l hJ
      split at h
      · rename_i hpc
        cases h
        rw [hJ] at hs
        exact ⟨J, l, rfl, hpc, hs⟩
      · cases h
    · cases h
  unfold a_at at h
  split at h
  · split at h
    · rename_i hpc
      cases h
      exact ⟨_, _, rfl, hpc, ht⟩
    · exact hj h
  · exact hj h
def g_F (b : Nat) (v : List Int) (f : a_F) (p : q_Fr) : Prop := f.1 = p.1 ∧ q_srt (q_mC f.1) = true ∧ (∃ J l, f.2.1 = J :: l ∧ J.1 = p.2.1 ∧ f.2.1 <:+ q_mC f.1) ∧ g_L b v f.2.2.1 p.2.2.1 ∧ g_s b v f.2.2.2 p.2.2.2
def g_S (L : Nat) (xs : Nat → Int32) (v : List Int) (S : List (a_N × a_N)) : Prop := ∀ q ∈ S, ∃ j : Int, g_lin v q.1.2.1 q.1.2.2 j ∧ 0 ≤ j ∧ j < L ∧ q.2.1 = false ∧ g_lin v q.2.2.1 q.2.2.2 (xs j.toNat).toInt
def g_K (ML : q_MI) (b L : Nat) (xs : Nat → Int32) (v : List Int) (K : a_K) (ps : List q_Fr) (m : q_M) : Prop := v.length = K.1 ∧ g_B v K.2.1 ∧ g_S L xs v K.2.2.1 ∧ g_2 (g_F b v) K.2.2.2.1 ps ∧ g_M b v K.2.2.2.2 m ∧ v[0]? = some (L : Int) ∧ L < 2147483648 ∧ (∀ f, ps.getLast? = some f → f.1 = ML)
theorem g_F_ext {b : Nat} {v t : List Int} {f : a_F} {p : q_Fr} (h : g_F b v f p) : g_F b (v ++ t) f p := ⟨h.1, h.2.1, h.2.2.1, g_L_ext h.2.2.2.1, g_s_ext h.2.2.2.2⟩
theorem g_S_ext {L : Nat} {xs : Nat → Int32} {v t : List Int} {S : List (a_N × a_N)} (h : g_S L xs v S) : g_S L xs (v ++ t) S := by
  intro q hq
  obtain ⟨j, h1, h2, h3, h4, h5⟩ := h q hq
  exact ⟨j, g_lin_ext h1, h2, h3, h4, g_lin_ext h5⟩
theorem g_0_ext {v t : List Int} {z : Int} (h : v[0]? = some z) : (v ++ t)[0]? = some z := by
  rw [List.getElem?_append_left (List.getElem?_eq_some_iff.mp h).1]
  exact h
theorem g_lin_uniq {v : List Int} {o : Option Nat} {c x y : Int} (h1 : g_lin v o c x) (h2 : g_lin v o c y) : x = y := by
  cases o with
  | none =>
    have h1 : x = c := h1
    have h2 : y = c := h2
    omega
  | some i =>
    obtain ⟨w, a1, a2⟩ := h1
    obtain ⟨u, b1, b2⟩ := h2
    rw [a1] at b1
    cases b1
    omega
theorem g_mmo {S : List (a_N × a_N)} {x y : a_N} (h : a_mmo S x = some y) : ∃ q ∈ S, q.1.2.1 = x.2.1 ∧ q.1.2.2 = x.2.2 ∧ q.2 = y := by
  induction S with
  | nil => cases h
  | cons q S ih =>
    unfold a_mmo at h
    split at h
    · rename_i he
      cases h
      simp only [a_eqn, decide_eq_true_eq] at he
      exact ⟨q, List.mem_cons_self, he.1, he.2, rfl⟩
    · obtain ⟨p, hp, h⟩ := ih h
      exact ⟨p, List.mem_cons_of_mem _ hp, h⟩
theorem g_scr {b L : Nat} {xs : Nat → Int32} {v : List Int} {k k1 : Nat} {B B1 : a_B} {S S1 : List (a_N × a_N)} {i : Instr} {sa sa1 : List a_V} {st : List Value} (h : a_scr k B S i sa = some (k1, B1, S1, sa1)) (hk : v.length = k) (hB : g_B v B) (hS : g_S L xs v S) (h0 : v[0]? = some (L : Int)) (hL : L < 2147483648) (hs : g_s b v sa st) :
    ∃ (t : List Int) (st1 : List Value), q_scr b L xs i st = some st1 ∧ (v ++ t).length = k1 ∧ g_B (v ++ t) B1 ∧ g_S L xs (v ++ t) S1 ∧ g_s b (v ++ t) sa1 st1 := by
  unfold a_scr at h
  split at h
  · split at h
    rotate_left
    · cases h
    rename_i x r
    obtain ⟨w, ws, rfl, hw, hs1⟩ := g_ca hs
    replace hs := hs1
    obtain ⟨y, ys, rfl, hy, hs1⟩ := g_ca hs
    replace hs := hs1
    have hy : y = .retAddr b := hy
    subst hy
    obtain ⟨j, rfl, hj⟩ := hw
    split at h
    · rename_i y0 hy0
      cases h
      obtain ⟨q, hq, e1, e2, rfl⟩ := g_mmo hy0
      obtain ⟨z, z1, z2, z3, z4, z5⟩ := hS q hq
      rw [e1, e2] at z1
      have hz := g_lin_uniq hj z1
      obtain ⟨hin, he, hlt, -⟩ := g_ix (j := j) (n := L) (by omega) (by omega)
      refine ⟨[], .int (xs j.toNatClampNeg) :: ys, by simp only [q_scr]; rw [if_pos ⟨trivial, hin⟩], by simpa using hk, by simpa using hB, by simpa using hS, ?_, by simpa using hs⟩
      have e3 : z.toNat = j.toNatClampNeg := by omega
      rw [e3] at z5
      obtain ⟨qa, qb⟩ := q
      obtain ⟨lg, oo, cc⟩ := qb
      simp only at z4 z5
      subst z4
      exact ⟨_, rfl, by simpa using z5⟩
    · split at h
      rotate_left
      · cases h
      rename_i hc
      cases h
      have hi := g_iv hB (x := (false, x)) hj (g_o32 j)
      have hl := g_iv hB (x := (true, some 0, 0)) (z := (L : Int)) ⟨L, h0, by show (L : Int) = L + 0; omega⟩ (Or.inr ⟨by show (-9223372036854775808 : Int) ≤ _; omega, by show _ ≤ (9223372036854775807 : Int); omega⟩)
      obtain ⟨hin, he, hlt, -⟩ := g_ix (j := j) (n := L) (by omega) (by omega)
      obtain ⟨t, t1, t2, t3, t4⟩ := g_top hk hB (lg := false) (g_in32 (xs j.toNatClampNeg))
      refine ⟨t, .int (xs j.toNatClampNeg) :: ys, by simp only [q_scr]; rw [if_pos ⟨trivial, hin⟩], t1, t2, ?_, ⟨_, rfl, t4⟩, g_s_ext hs⟩
      intro q hq
      rcases List.mem_cons.mp hq with rfl | hq
      · exact ⟨j.toInt, g_lin_ext hj, by omega, by omega, rfl, t4⟩
      · exact g_S_ext hS q hq
  · split at h
    rotate_left
    · cases h
    cases h
    obtain ⟨y, ys, rfl, hy, hs1⟩ := g_ca hs
    replace hs := hs1
    have hy : y = .retAddr b := hy
    subst hy
    exact ⟨[], .int (Int32.ofNat L) :: ys, by simp only [q_scr]; rw [if_pos trivial], by simpa using hk, by simpa using hB, by simpa using hS, ⟨_, rfl, by rw [g_len hL]; exact ⟨L, g_0_ext h0, by show (L : Int) = L + 0; omega⟩⟩, by simpa using hs⟩
  · cases h

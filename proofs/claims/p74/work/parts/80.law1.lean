/-! THE LAW: one call of each side after the other, by contracts -/
def q_mLw : q_MI := (⟨"SisterCountLaw", "law", "([I)Z"⟩, code, 4, some .boolean, q_cL, (14, 520, 1, 1), (0, 0, 0, 0))
/-- values of the law's stack: 0 a cell, 1 the script, 2 its place, 3 an int of it, 4 an int, 5 a long, 6 a constant, 7 an answer -/
abbrev l_V : Type := Nat × Int
/-- a call: the method, its arguments, what it gives, what holds before and behind it -/
abbrev l_C : Type := Nat × List l_V × l_V × (Nat × Nat)
def l_v (a : Nat) (xs : Nat → Int32) (R : Int → Int32) (v : l_V) (y : Value) : Prop := match v.1 with
  | 0 => y = .ref v.2.toNat
  | 1 => y = .retAddr 0
  | 2 => y = .int (nI (a + v.2.toNat))
  | 3 => y = .int (xs (a + v.2.toNat))
  | 4 => ∃ z : Int32, y = .int z
  | 5 => ∃ z : Int64, y = .long z
  | 6 => y = .int (Int32.ofInt v.2)
  | 7 => y = .int (R v.2)
  | _ => False
def l_isI (v : l_V) : Bool := match v.1 with
  | 2 => true
  | 3 => true
  | 4 => true
  | 6 => true
  | 7 => true
  | _ => false
def l_ct (v : l_V) : Nat := match v.1 with
  | 5 => 2
  | _ => 1
def l_cts (st : List l_V) : Nat := (st.map l_ct).sum
def l_find (cs : List l_C) (k p : Nat) (st : List l_V) : Option (Nat × List l_V) := match cs with
  | [] => none
  | c :: cs => if c.1 = k ∧ c.2.2.2.1 = p ∧ (st.take c.2.1.length).reverse = c.2.1 ∧ l_cts (st.drop c.2.1.length) ≤ 8 then some (c.2.2.2.2, c.2.2.1 :: st.drop c.2.1.length) else l_find cs k p st
def l_step (cs : List l_C) (i : Instr) (p : Nat) (st : List l_V) : Option (Nat × List l_V) := match i with
  | .aload k => if k = 0 then some (p, (1, 0) :: st) else if k = 1 then some (p, (0, 0) :: st) else if k = 2 then some (p, (0, 93) :: st) else none
  | .iload k => if k = 3 then some (p, (2, 0) :: st) else none
  | .iconst c => some (p, (6, c) :: st)
  | .iadd => (match st with | x :: y :: r => if x.1 = 6 ∧ y = (2, 0) ∧ 0 ≤ x.2 ∧ x.2 ≤ 5 then some (p, (2, x.2) :: r) else none | _ => none)
  | .iaload => (match st with | x :: y :: r => if x.1 = 2 ∧ y.1 = 1 ∧ 0 ≤ x.2 ∧ x.2 ≤ 5 then some (p, (3, x.2) :: r) else none | _ => none)
  | .i2l => (match st with | x :: r => if l_isI x = true then some (p, (5, 0) :: r) else none | _ => none)
  | .lshl => (match st with | x :: y :: r => if l_isI x = true ∧ y.1 = 5 then some (p, (5, 0) :: r) else none | _ => none)
  | .land => (match st with | x :: y :: r => if x.1 = 5 ∧ y.1 = 5 then some (p, (5, 0) :: r) else none | _ => none)
  | .lor => (match st with | x :: y :: r => if x.1 = 5 ∧ y.1 = 5 then some (p, (5, 0) :: r) else none | _ => none)
  | .jsr_w _ => some (p, (5, 0) :: st)
  | .pop => (match st with | x :: r => if l_isI x = true then some (p, r) else none | _ => none)
  | .pop2 => (match st with | x :: r => if x.1 = 5 then some (p, r) else none | _ => none)
  | .invokevirtual k => l_find cs k p st
  | _ => none
/-- the way back to the loop: 0 not one, 1 it is, 2 it may not be -/
def l_jmp (pc : Nat) (i : Instr) (p : Nat) (st : List l_V) : Nat := match i with
  | .goto off => if (pc : Int) + off = 2439 ∧ p = 1 ∧ st = [] then 1 else 2
  | .if_icmp c off => if (pc : Int) + off = 2439 ∧ p = 1 ∧ c = .eq then (match st with | [x, y] => if x.1 = 7 ∧ x = y then 1 else 2 | _ => 2) else 2
  | _ => 0
def l_nx (pc : Nat) (C : List q_I) : Bool := match C with
  | [] => false
  | J :: _ => Nat.beq J.1 pc
def l_run (cs : List l_C) : List q_I → Nat → List l_V → Bool
  | [], _, _ => false
  | I :: C, p, st => match l_jmp I.1 I.2.2.2.1 p st with
    | 0 => (match l_step cs I.2.2.2.1 p st with | some (p1, st1) => l_nx (I.1 + I.2.2.1) C && l_run cs C p1 st1 | none => false)
    | 1 => true
    | _ => false
def l_go (L : Nat) (xs : Nat → Int32) (pc : Nat) (l : q_L) (st : List Value) (m : q_M) : Prop := ∃ (n : Nat) (qF : q_M), q_lrun q_D 0 L xs q_mLw n pc l st m = some (1, qF) ∧ qF.length ≤ 600000 ∧ q_sl qF ≤ 7302250
def l_L (a : Nat) (l : q_L) : Prop := q_get l 0 = some (.retAddr 0) ∧ q_get l 1 = some (.ref 0) ∧ q_get l 2 = some (.ref 93) ∧ q_get l 3 = some (.int (nI a))
/-- what a call must do -/
def l_ok (Inv : Nat → q_M → Prop) (a : Nat) (xs : Nat → Int32) (R : Int → Int32) (c : l_C) : Prop := ∀ (m : q_M) (ys rest : List Value), Inv c.2.2.2.1 m → g_2 (l_v a xs R) c.2.1 ys → q_cats rest ≤ 8 →
  ∃ (M1 : q_MI) (n : Nat) (r : Value) (m1 : q_M), q_call q_D q_mLw c.1 (ys.reverse ++ rest) m = some (M1, ys, rest) ∧ q_run q_D n M1 0 (lv_args 0 ys) [] m = some (some r, m1) ∧ Inv c.2.2.2.2 m1 ∧ l_v a xs R c.2.2.1 r
theorem l_srt : q_srt (q_mC q_mLw) = true := by decide +kernel
section LGO
variable {L : Nat} {xs : Nat → Int32} {l l1 : q_L} {st st1 : List Value} {m m1 : q_M} {pc pc1 : Nat}
theorem l_go_step (h : ∀ n, q_lrun q_D 0 L xs q_mLw (n + 1) pc l st m = q_lrun q_D 0 L xs q_mLw n pc1 l1 st1 m1) (k : l_go L xs pc1 l1 st1 m1) : l_go L xs pc l st m := by
  obtain ⟨n, qF, h1, h2⟩ := k
  exact ⟨n + 1, qF, (h n).trans h1, h2⟩
theorem l_go_pure {I : q_I} {C : List q_I} (hC : (I :: C) <:+ q_cL) (hg : q_grp I.2.2.2.1 = 0) (hp : q_pure 4 I.1 I.2.2.1 I.2.2.2.1 l st = some (pc1, l1, st1)) (k : l_go L xs pc1 l1 st1 m) : l_go L xs I.1 l st m := by
  refine l_go_step (fun n => ?_) k
  have hfd : q_fd (q_mC q_mLw) I.1 = some I := q_fd_suf l_srt hC
  obtain ⟨a, b, c, d, e⟩ := I
  have hp : q_pure (q_mL q_mLw) a c d l st = some (pc1, l1, st1) := hp
  simp only at hg hfd
  rw [q_lrun]
  simp only [hfd, hg, hp]
theorem l_go_scr {I : q_I} {C : List q_I} (hC : (I :: C) <:+ q_cL) (hg : q_grp I.2.2.2.1 = 1) (hp : q_scr 0 L xs I.2.2.2.1 st = some st1) (k : l_go L xs (I.1 + I.2.2.1) l st1 m) : l_go L xs I.1 l st m := by
  refine l_go_step (fun n => ?_) k
  have hfd : q_fd (q_mC q_mLw) I.1 = some I := q_fd_suf l_srt hC
  obtain ⟨a, b, c, d, e⟩ := I
  simp only at hg hfd hp
  rw [q_lrun]
  simp only [hfd, hg, hp]
theorem l_go_lk {I : q_I} {C : List q_I} (hC : (I :: C) <:+ q_cL) (hg : q_grp I.2.2.2.1 = 4) (hp : q_lk I.2.2.2.1 st = some st1) (k : l_go L xs (I.1 + I.2.2.1) l st1 m) : l_go L xs I.1 l st m := by
  refine l_go_step (fun n => ?_) k
  have hfd : q_fd (q_mC q_mLw) I.1 = some I := q_fd_suf l_srt hC
  obtain ⟨a, b, c, d, e⟩ := I
  simp only at hg hfd hp
  rw [q_lrun]
  simp only [hfd, hg, hp]
theorem l_go_call {I : q_I} {C : List q_I} (hC : (I :: C) <:+ q_cL) (hg : q_grp I.2.2.2.1 = 3) {k : Nat} (hk : q_cnum I.2.2.2.1 = some k) {M1 : q_MI} {as rest : List Value} (hc : q_call q_D q_mLw k st m = some (M1, as, rest)) {n1 : Nat} {r : Option Value} (hr : q_run q_D n1 M1 0 (lv_args 0 as) [] m = some (r, m1)) (kk : l_go L xs (I.1 + I.2.2.1) l (r.toList ++ rest) m1) : l_go L xs I.1 l st m := by
  obtain ⟨n2, qF, h1, h2⟩ := kk
  have hfd : q_fd (q_mC q_mLw) I.1 = some I := q_fd_suf l_srt hC
  obtain ⟨a, b, c, d, e⟩ := I
  simp only at hg hfd hk h1
  refine ⟨n1 + n2 + 1, qF, ?_, h2⟩
  have e1 := q_fuel n1 (n1 + n2) _ _ _ _ _ _ (by omega) hr
  have e2 := q_lfuel n2 (n1 + n2) _ _ _ _ _ (by omega) h1
  rw [q_lrun]
  simp only [hfd, hg, hk, hc, e1, e2]
end LGO
theorem l_vI {a : Nat} {xs : Nat → Int32} {R : Int → Int32} {v : l_V} {y : Value} (h : l_v a xs R v y) (hi : l_isI v = true) : ∃ z : Int32, y = .int z := by
  obtain ⟨t, d⟩ := v
  unfold l_isI at hi
  unfold l_v at h
  split at hi <;> simp_all
theorem l_vL {a : Nat} {xs : Nat → Int32} {R : Int → Int32} {v : l_V} {y : Value} (h : l_v a xs R v y) (hi : v.1 = 5) : ∃ z : Int64, y = .long z := by
  obtain ⟨t, d⟩ := v
  simp only at hi
  subst hi
  exact h
theorem l_vc {a : Nat} {xs : Nat → Int32} {R : Int → Int32} {y : Value} : ∀ {v : l_V}, l_v a xs R v y → y.category = l_ct v
  | (0, d), h => by
    have h : y = .ref d.toNat := h
    subst h
    rfl
  | (1, d), h => by
    have h : y = .retAddr 0 := h
    subst h
    rfl
  | (2, d), h => by
    have h : y = .int (nI (a + d.toNat)) := h
    subst h
    rfl
  | (3, d), h => by
    have h : y = .int (xs (a + d.toNat)) := h
    subst h
    rfl
  | (6, d), h => by
    have h : y = .int (Int32.ofInt d) := h
    subst h
    rfl
  | (7, d), h => by
    have h : y = .int (R d) := h
    subst h
    rfl
  | (4, d), h => by
    have h : ∃ z : Int32, y = .int z := h
    obtain ⟨z, rfl⟩ := h
    rfl
  | (5, d), h => by
    have h : ∃ z : Int64, y = .long z := h
    obtain ⟨z, rfl⟩ := h
    rfl
  | (n + 8, d), h => by
    have h : False := h
    exact h.elim
theorem l_vcs {a : Nat} {xs : Nat → Int32} {R : Int → Int32} : ∀ {st : List l_V} {ss : List Value}, g_2 (l_v a xs R) st ss → q_cats ss = l_cts st
  | [], [], _ => rfl
  | v :: st, y :: ss, h => by
    have h1 := l_vc h.1
    have h2 := l_vcs h.2
    simp only [q_cats, l_cts, List.map_cons, List.sum_cons] at h2 ⊢
    omega
  | [], _ :: _, h => h.elim
  | _ :: _, [], h => h.elim
theorem l_nI {a : Nat} {c : Int} (h0 : 0 ≤ c) : nI (a + (0 : Int).toNat) + Int32.ofInt c = nI (a + c.toNat) := by
  obtain ⟨k, rfl⟩ := Int.eq_ofNat_of_zero_le h0
  show Int32.ofNat a + Int32.ofInt (k : Int) = Int32.ofNat (a + k)
  rw [Int32.ofNat_add]
  first
    | rfl
    | simp

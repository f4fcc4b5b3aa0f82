/-! THE CONSTRUCTORS: what they leave behind -/
def q_zc (x : q_E) : Prop := match x with
  | .inl (_, n, .inl f) => ∀ j, n ≤ j → f j = 0
  | .inl (_, n, .inr (.inl f)) => ∀ j, n ≤ j → f j = 0
  | .inl (_, n, .inr (.inr f)) => ∀ j, n ≤ j → f j = none
  | .inr _ => True
def q_zb (m : q_M) : Prop := ∀ x ∈ m, q_zc x
theorem q_zb_set {m : q_M} {k : Nat} {y : q_E} (h : q_zb m) (hy : q_zc y) : q_zb (m.set k y) := by
  intro x hx
  rcases List.mem_or_eq_of_mem_set hx with h1 | h1
  · exact h x h1
  · rw [h1]
    exact hy
theorem q_zb_at {m : q_M} {k : Nat} {y : q_E} (h : q_zb m) (hk : m[k]? = some y) : q_zc y := h y (List.mem_of_getElem? hk)
theorem q_in_lt {i : Int32} {n : Nat} (h : q_in i n = true) : i.toNatClampNeg < n := by
  simp only [q_in, Bool.and_eq_true, decide_eq_true_eq] at h
  exact h.2
theorem q_zb_cpy {r st1 : List Value} {m m1 : q_M} {j k sp dp w : Nat} (hz : q_zb m) (h : q_cpy r m j k sp dp w = some (st1, m1)) : q_zb m1 := by
  unfold q_cpy at h
  split at h
  · rename_i t0 n0 f t1 n1 g hj hk
    split at h
    rotate_left
    · cases h
    rename_i hc
    cases h
    refine q_zb_set hz (fun i hi => ?_)
    have h1 := q_zb_at hz hk i hi
    simp only [va_cpy]
    rw [if_neg (by omega)]
    exact h1
  · rename_i t0 n0 f t1 n1 g hj hk
    split at h
    rotate_left
    · cases h
    rename_i hc
    cases h
    refine q_zb_set hz (fun i hi => ?_)
    have h1 := q_zb_at hz hk i hi
    simp only [va_cpy]
    rw [if_neg (by omega)]
    exact h1
  · cases h
theorem q_zb_mem {G : q_G} {fr lo : Nat} {i : Instr} {st st1 : List Value} {m m1 : q_M} (hz : q_zb m) (h : q_mem G fr lo i st m = some (st1, m1)) : q_zb m1 := by
  unfold q_mem at h
  repeat' split at h
  all_goals first
    | (cases h; done)
    | (cases h; exact hz)
    | (cases h; exact q_zb_set hz trivial)
    | skip
  all_goals first
    | (unfold q_copy at h; repeat' split at h
       all_goals first
         | (cases h; done)
         | exact q_zb_cpy hz h)
    | (rename_i hm hc
       cases h
       refine q_zb_set hz (fun i hi => ?_)
       have h1 := q_zb_at hz hm i hi
       have h2 := q_in_lt hc.2
       simp only [upd, vp_updL]
       rw [if_neg (by omega)]
       exact h1)
    | skip
  · rename_i hm _ hc
    cases h
    refine q_zb_set hz (fun i hi => ?_)
    have h1 := q_zb_at hz hm i hi
    have h2 := q_in_lt hc.2
    simp only [upd]
    rw [if_neg (by omega)]
    exact h1
  · rename_i hm _ _ _ _ hc
    cases h
    refine q_zb_set hz (fun i hi => ?_)
    have h1 := q_zb_at hz hm i hi
    have h2 := q_in_lt hc.2.1
    simp only [va_up]
    rw [if_neg (by omega)]
    exact h1
theorem q_zb_new {G : q_G} {i : Instr} {st st1 : List Value} {m : q_M} {x : q_E} (h : q_new G i st m = some (st1, x)) : q_zc x := by
  unfold q_new at h
  repeat' split at h
  all_goals first
    | (cases h; done)
    | skip
  · cases h
    trivial
  · cases h
    exact fun _ _ => rfl
  · cases h
    exact fun _ _ => rfl
  · cases h
    exact fun _ _ => rfl
theorem q_zb_push {m : q_M} {x : q_E} (h : q_zb m) (hx : q_zc x) : q_zb (m ++ [x]) := by
  intro y hy
  rcases List.mem_append.mp hy with h1 | h1
  · exact h y h1
  · rw [List.mem_singleton.mp h1]
    exact hx
theorem q_zb_run {G : q_G} : ∀ (n : Nat) (M : q_MI) (pc : Nat) (lv : q_L) (st : List Value) (q : q_M) (r : Option Value) (qF : q_M), q_zb q → q_run G n M pc lv st q = some (r, qF) → q_zb qF
  | 0, _, _, _, _, _, _, _, _, h => by simp [q_run] at h
  | n + 1, M, pc, lv, st, q, r, qF, hz, h => by
    unfold q_run at h
    split at h
    · cases h
    · split at h
      · split at h
        · exact q_zb_run n _ _ _ _ _ _ _ hz h
        · cases h
      · split at h
        · rename_i h1
          exact q_zb_run n _ _ _ _ _ _ _ (q_zb_mem hz h1) h
        · cases h
      · split at h
        · rename_i h1
          exact q_zb_run n _ _ _ _ _ _ _ (q_zb_push hz (q_zb_new h1)) h
        · cases h
      · split at h
        · split at h
          · split at h
            · rename_i h1
              exact q_zb_run n _ _ _ _ _ _ _ (q_zb_run n _ _ _ _ _ _ _ hz h1) h
            · cases h
          · cases h
        · split at h
          · cases h
            exact hz
          · cases h
      · split at h
        · exact q_zb_run n _ _ _ _ _ _ _ hz h
        · cases h
/-! a memory held against the fixed shape, place by place -/
noncomputable def l_all (n : Nat) (p : Nat → Bool) : Bool := Nat.rec (motive := fun _ => Bool) true (fun k ih => match p k with | true => ih | false => false) n
theorem l_all_ok {p : Nat → Bool} : ∀ (n : Nat), l_all n p = true → ∀ j, j < n → p j = true
  | 0, _, j, hj => by omega
  | n + 1, h, j, hj => by
    have h : (match p n with | true => l_all n p | false => false) = true := h
    split at h
    · rename_i hp
      by_cases e : j = n
      · rw [e]
        exact hp
      · exact l_all_ok n h j (by omega)
    · cases h
def l_ckF (x : b_FI) (y : Value) : Bool := match x, y with
  | .inl (false, lo, hi), .int z => decide (lo ≤ z.toInt ∧ z.toInt ≤ hi)
  | .inl (true, lo, hi), .long z => decide (lo ≤ z.toInt ∧ z.toInt ≤ hi)
  | .inr k, .ref k2 => Nat.beq k k2
  | _, _ => false
def l_ckFs : List b_FI → List Value → Bool
  | [], [] => true
  | x :: xs, y :: ys => l_ckF x y && l_ckFs xs ys
  | _, _ => false
noncomputable def l_ckC (x : b_I) (y : q_E) : Bool := match x, y with
  | .inl (t, n, .inl (ex, lo, hi)), .inl (t2, n2, .inl f) => Nat.beq t t2 && (Nat.beq n n2 && (l_all n (fun j => decide (lo ≤ (f j).toInt ∧ (f j).toInt ≤ hi)) && ex.all (fun q => decide (q.2.1 ≤ (f q.1).toInt ∧ (f q.1).toInt ≤ q.2.2))))
  | .inl (t, n, .inr (.inl _)), .inl (t2, n2, .inr (.inl _)) => Nat.beq t t2 && Nat.beq n n2
  | .inl (t, n, .inr (.inr rs)), .inl (t2, n2, .inr (.inr f)) => Nat.beq t t2 && (Nat.beq n n2 && (Nat.beq rs.length n && l_all n (fun j => decide (f j = rs[j]?))))
  | .inr (ci, fs), .inr (ci2, vs) => Nat.beq ci ci2 && l_ckFs fs vs
  | _, _ => false
noncomputable def l_ckM : List b_I → q_M → Bool
  | [], [] => true
  | x :: xs, y :: ys => l_ckC x y && l_ckM xs ys
  | _, _ => false
theorem l_ckF_ok {x : b_FI} {y : Value} (h : l_ckF x y = true) : bi_f x y := by
  unfold l_ckF at h
  split at h
  · rw [decide_eq_true_eq] at h
    exact ⟨_, rfl, h.1, h.2⟩
  · rw [decide_eq_true_eq] at h
    exact ⟨_, rfl, h.1, h.2⟩
  · have := Nat.eq_of_beq_eq_true h
    subst this
    rfl
  · cases h
theorem l_ckFs_ok : ∀ {xs : List b_FI} {ys : List Value}, l_ckFs xs ys = true → g_2 bi_f xs ys
  | [], [], _ => trivial
  | x :: xs, y :: ys, h => by
    simp only [l_ckFs, Bool.and_eq_true] at h
    exact ⟨l_ckF_ok h.1, l_ckFs_ok h.2⟩
  | [], _ :: _, h => by simp [l_ckFs] at h
  | _ :: _, [], h => by simp [l_ckFs] at h
theorem l_ckC_ok {x : b_I} {y : q_E} (hz : q_zc y) (h : l_ckC x y = true) : bi_c x y := by
  unfold l_ckC at h
  split at h
  · simp only [Bool.and_eq_true] at h
    obtain ⟨h1, h2, h3, h4⟩ := h
    have := Nat.eq_of_beq_eq_true h1
    subst this
    have := Nat.eq_of_beq_eq_true h2
    subst this
    refine ⟨_, rfl, fun j hj => of_decide_eq_true (l_all_ok _ h3 j hj), fun q hq => of_decide_eq_true (List.all_eq_true.mp h4 q hq), hz⟩
  · simp only [Bool.and_eq_true] at h
    obtain ⟨h1, h2⟩ := h
    have := Nat.eq_of_beq_eq_true h1
    subst this
    have := Nat.eq_of_beq_eq_true h2
    subst this
    exact ⟨_, rfl, hz⟩
  · rename_i t n rs t2 n2 f
    simp only [Bool.and_eq_true] at h
    obtain ⟨h1, h2, h3, h4⟩ := h
    have := Nat.eq_of_beq_eq_true h1
    subst this
    have := Nat.eq_of_beq_eq_true h2
    subst this
    have h3 := Nat.eq_of_beq_eq_true h3
    refine ⟨_, rfl, h3, fun j => ?_⟩
    by_cases hj : j < n
    · exact of_decide_eq_true (l_all_ok _ h4 j hj)
    · rw [List.getElem?_eq_none (by omega)]
      exact hz j (by omega)
  · simp only [Bool.and_eq_true] at h
    obtain ⟨h1, h2⟩ := h
    have := Nat.eq_of_beq_eq_true h1
    subst this
    exact ⟨_, rfl, l_ckFs_ok h2⟩
  · cases h
theorem l_ckM_ok : ∀ {xs : List b_I} {ys : q_M}, q_zb ys → l_ckM xs ys = true → bi_M xs ys
  | [], [], _, _ => trivial
  | x :: xs, y :: ys, hz, h => by
    simp only [l_ckM, Bool.and_eq_true] at h
    exact ⟨l_ckC_ok (hz y List.mem_cons_self) h.1, l_ckM_ok (fun z hz2 => hz z (List.mem_cons_of_mem _ hz2)) h.2⟩
  | [], _ :: _, _, h => by simp [l_ckM] at h
  | _ :: _, [], _, h => by simp [l_ckM] at h

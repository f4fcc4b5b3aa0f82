/-! RULES PROVED BY HAND: what tokens mean, of the model's world (cell 94), images (95), fresh (99) -/
section GH
variable {g : Int} {K : r_K}
/-- how many of the first n are h -/
def r_cnt (f : Nat → Int) (h : Int) : Nat → Nat
  | 0 => 0
  | n + 1 => r_cnt f h n + (if f n = h then 1 else 0)
/-- homes are houses; no more than six in one -/
def r_blk (N H : Int) (f : Nat → Int) : Prop := (∀ k : Nat, k < 20 → (k : Int) < N → 0 ≤ f k ∧ f k < H) ∧ ∀ h, N ≤ 20 → r_cnt f h N.toNat ≤ 6
def r_home (m : q_M) (c b : Nat) (k : Nat) : Int := q_i m c (b + 7 + 6 * k)
def r_J (m : q_M) (c b : Nat) : Prop := r_blk (q_i m c (b + 3)) (q_i m c (b + 2)) (r_home m c b)
def r_jT (id : Nat) : Option (Nat × Nat) := match id with
  | 0 => some (94, 0)
  | 1 => some (99, 0)
  | 2 => some (95, 0)
  | 3 => some (95, 277)
  | 4 => some (95, 554)
  | _ => none
/-- copies: to, from -/
def r_cT (id : Nat) : Option ((Nat × Nat) × (Nat × Nat)) := match id with
  | 10 => some ((94, 0), (99, 0))
  | 11 => some ((95, 0), (94, 0))
  | 12 => some ((95, 277), (94, 0))
  | 13 => some ((95, 554), (94, 0))
  | 14 => some ((94, 0), (95, 0))
  | 15 => some ((94, 0), (95, 277))
  | 16 => some ((94, 0), (95, 554))
  | _ => none
def r_sch (m : q_M) (k : Nat) : Prop := q_i m 94 (11 + 6 * k) = 0 ∧ q_i m 94 (12 + 6 * k) = 0 ∧ q_i m 94 0 ≤ q_i m 94 (9 + 6 * k) ∧ q_i m 94 (9 + 6 * k) ≤ q_i m 94 1
def r_up (f : Nat → Int) (k : Nat) (z : Int) : Nat → Int := fun j => if j = k then z else f j
/-- the tokens -/
def r_F (K : r_K) (g : Int) (id : Nat) (zs : List Int) (m : q_M) : Prop := match r_jT id, zs with
  | some (c, b), [] => r_J m c b
  | some _, _ => True
  | none, zs => match r_cT id, zs with
    | some (d, s), [i] => ∀ j : Nat, (j : Int) < i → j < 277 → q_at m d.1 (d.2 + j) = q_at m s.1 (s.2 + j)
    | some _, _ => True
    | none, zs => match id, zs with
      | 20, [c, o, hc] => ∃ cn k : Nat, c = cn ∧ o = k ∧ cn < 20 ∧ k < 20 ∧ c < q_i m 94 3 ∧ o < q_i m 94 3 ∧ r_home m 94 0 cn = r_home m 94 0 k ∧ r_blk (q_i m 94 3) (q_i m 94 2) (r_up (r_home m 94 0) cn hc)
      | 21, [c] => 0 ≤ c ∧ c < 20 ∧ c < q_i m 94 3
      | 30, [h, c, n] => ∃ k : Nat, c = k ∧ k ≤ 20 ∧ n ≤ r_cnt (r_home m 94 0) h k
      | 32, [h] => ∃ k : Nat, k < 20 ∧ (k : Int) < q_i m 94 3 ∧ r_sch m k ∧ r_home m 94 0 k = h
      | 33, [h, c] => ∃ k : Nat, k < 20 ∧ (k : Int) < q_i m 94 3 ∧ r_sch m k ∧ r_home m 94 0 k = h ∧ c ≤ k
      | 34, [] => ∃ k : Nat, k < 20 ∧ (k : Int) < q_i m 94 3 ∧ r_sch m k
      | 35, [h] => ∃ k : Nat, k < 20 ∧ (k : Int) < q_i m 94 3 ∧ r_sch m k ∧ h ≤ r_home m 94 0 k
      | 38, [h] => ∃ k : Nat, k < 20 ∧ (k : Int) < q_i m 94 3 ∧ h ≤ r_home m 94 0 k
      | 39, [h] => ∃ k : Nat, k < 20 ∧ (k : Int) < q_i m 94 3 ∧ r_home m 94 0 k = h
      | 40, [h, c] => ∃ k : Nat, k < 20 ∧ (k : Int) < q_i m 94 3 ∧ r_home m 94 0 k = h ∧ c ≤ k
      | 97, [w, r] => K w.toNat r m
      | 41, [c, n] => ∃ k : Nat, c = k ∧ k ≤ 20 ∧ n = r_cnt (r_home m 99 0) g k
      | 42, [r] => ∃ k : Nat, q_i m 99 3 = k ∧ k ≤ 20 ∧ r = r_cnt (r_home m 99 0) g k
      | 43, [h] => h = g
      | 44, [h, r] => ∃ k : Nat, q_i m 99 3 = k ∧ k ≤ 20 ∧ r = r_cnt (r_home m 99 0) h k
      | id, zs => r_F2 K g id zs m
def r_hp (c b : Nat) : b_W := (c, b + 2, b + 3) :: (List.range 20).map (fun k => (c, b + 7 + 6 * k, b + 7 + 6 * k))
/-- their places -/
def r_fp (id : Nat) : b_W := match r_jT id with
  | some (c, b) => r_hp c b
  | none => match r_cT id with
    | some (d, s) => [(d.1, d.2, d.2 + 276), (s.1, s.2, s.2 + 276)]
    | none => match id with
      | 20 => r_hp 94 0
      | 21 => [(94, 3, 3)]
      | 30 => [(94, 0, 276)]
      | 32 => [(94, 0, 276)]
      | 33 => [(94, 0, 276)]
      | 34 => [(94, 0, 276)]
      | 35 => [(94, 0, 276)]
      | 38 => r_hp 94 0
      | 39 => r_hp 94 0
      | 40 => r_hp 94 0
      | 97 => (List.range 200).map (fun c => (c, 0, 20000))
      | 41 => [(99, 0, 276)]
      | 42 => [(99, 0, 276)]
      | 43 => []
      | 44 => [(99, 0, 276)]
      | id => r_fp2 id
theorem r_hp_in {c b k : Nat} (h : k < 20) : b_plW (r_hp c b) c (b + 7 + 6 * k) := ⟨_, List.mem_cons_of_mem _ (List.mem_map.mpr ⟨k, List.mem_range.mpr h, rfl⟩), rfl, Nat.le_refl _, Nat.le_refl _⟩
theorem r_hp_2 {c b : Nat} : b_plW (r_hp c b) c (b + 2) := ⟨_, List.mem_cons_self, rfl, by simp, by simp⟩
theorem r_hp_3 {c b : Nat} : b_plW (r_hp c b) c (b + 3) := ⟨_, List.mem_cons_self, rfl, by simp, by simp⟩
theorem r_cnt_congr {f g : Nat → Int} {h : Int} : ∀ {n : Nat}, (∀ k, k < n → f k = g k) → r_cnt f h n = r_cnt g h n
  | 0, _ => rfl
  | n + 1, hk => by
    unfold r_cnt
    rw [r_cnt_congr (fun k hk1 => hk k (by omega)), hk n (by omega)]
theorem r_blk_congr {N H : Int} {f g : Nat → Int} (h : ∀ k, k < 20 → f k = g k) (hb : r_blk N H f) : r_blk N H g := by
  refine ⟨fun k h1 h2 => ?_, fun x hN => ?_⟩
  · rw [← h k h1]
    exact hb.1 k h1 h2
  · rw [← r_cnt_congr (f := f) (fun k hk => h k (by omega))]
    exact hb.2 x hN
theorem r_cnt_mono {f : Nat → Int} {h : Int} : ∀ {n k : Nat}, k ≤ n → r_cnt f h k ≤ r_cnt f h n
  | 0, k, hk => by
    have : k = 0 := by omega
    subst this
    exact Nat.le_refl _
  | n + 1, k, hk => by
    by_cases e : k = n + 1
    · subst e
      exact Nat.le_refl _
    · have := r_cnt_mono (f := f) (h := h) (n := n) (k := k) (by omega)
      show r_cnt f h k ≤ r_cnt f h n + (if f n = h then 1 else 0)
      omega
/-- one changed: counts -/
theorem r_cnt_up {f : Nat → Int} {h z : Int} {k : Nat} : ∀ {n : Nat}, k < n → r_cnt (r_up f k z) h n + (if f k = h then 1 else 0) = r_cnt f h n + (if z = h then 1 else 0)
  | 0, hk => by omega
  | n + 1, hk => by
    unfold r_cnt
    by_cases e : k = n
    · subst e
      have e1 : r_cnt (r_up f k z) h k = r_cnt f h k := r_cnt_congr (fun j hj => by simp [r_up, show j ≠ k by omega])
      have e2 : r_up f k z k = z := by simp [r_up]
      rw [e1, e2]
      omega
    · have ih := r_cnt_up (f := f) (h := h) (z := z) (k := k) (n := n) (by omega)
      have e2 : r_up f k z n = f n := by simp [r_up, show n ≠ k by omega]
      rw [e2]
      omega
/-- homes traded -/
theorem r_swap {N H hc : Int} {f : Nat → Int} {c o : Nat} (hc20 : c < 20) (ho20 : o < 20) (hc1 : (c : Int) < N) (ho : (o : Int) < N) (he : f c = f o) (hb : r_blk N H (r_up f c hc)) : r_blk N H (r_up f o hc) := by
  by_cases hco : c = o
  · subst hco
    exact hb
  have hin := hb.1 c hc20 hc1
  have e1 : r_up f c hc c = hc := by simp [r_up]
  rw [e1] at hin
  have hio := hb.1 o ho20 ho
  have e2 : r_up f c hc o = f o := by simp [r_up, show o ≠ c from fun q => hco q.symm]
  rw [e2] at hio
  refine ⟨fun k h1 h2 => ?_, fun h hN => ?_⟩
  · unfold r_up
    split
    · exact hin
    · by_cases hk : k = c
      · subst hk
        rw [he]
        exact hio
      · have := hb.1 k h1 h2
        simpa [r_up, hk] using this
  · have k1 := r_cnt_up (f := f) (h := h) (z := hc) (k := c) (n := N.toNat) (by omega)
    have k2 := r_cnt_up (f := f) (h := h) (z := hc) (k := o) (n := N.toNat) (by omega)
    have k3 := hb.2 h hN
    rw [he] at k1
    omega
theorem r_bgF {I : List b_I} (hI : r_Iok I) : bg_F I r_fp (r_F K g) := by
  intro id zs m m1 hI0 hI1 hp hF
  have hJ : ∀ c b : Nat, (∀ a j, b_plW (r_hp c b) a j → q_at m1 a j = q_at m a j) → q_i m1 c (b + 3) = q_i m c (b + 3) ∧ q_i m1 c (b + 2) = q_i m c (b + 2) ∧ ∀ k, k < 20 → r_home m1 c b k = r_home m c b k := fun c b hh => ⟨q_i_eq (hh _ _ r_hp_3), q_i_eq (hh _ _ r_hp_2), fun k hk => q_i_eq (hh _ _ (r_hp_in hk))⟩
  have hW : (∀ a j, b_plW [(94, 0, 276)] a j → q_at m1 a j = q_at m a j) → (∀ j, j ≤ 276 → q_i m1 94 j = q_i m 94 j) := fun hh j hj => q_i_eq (hh 94 j ⟨_, List.mem_singleton.mpr rfl, rfl, Nat.zero_le _, hj⟩)
  have hS : (∀ j, j ≤ 276 → q_i m1 94 j = q_i m 94 j) → ∀ k, k < 20 → r_sch m k → r_sch m1 k := fun hw k hk ⟨s1, s2, s3, s4⟩ => ⟨by rw [hw _ (by omega)]; exact s1, by rw [hw _ (by omega)]; exact s2, by rw [hw 0 (by omega), hw _ (by omega)]; exact s3, by rw [hw 1 (by omega), hw _ (by omega)]; exact s4⟩
  unfold r_fp at hp
  unfold r_F at hF ⊢
  cases hj : r_jT id with
  | some q =>
    obtain ⟨c, b⟩ := q
    simp only [hj] at hp hF ⊢
    cases zs with
    | cons z zs => trivial
    | nil =>
      obtain ⟨h3, h2, hh⟩ := hJ c b hp
      simp only at hF ⊢
      unfold r_J at hF ⊢
      rw [h3, h2]
      exact r_blk_congr (fun k hk => (hh k hk).symm) hF
  | none =>
    simp only [hj] at hp hF ⊢
    cases hc : r_cT id with
    | some q =>
      obtain ⟨⟨d1, d2⟩, s1, s2⟩ := q
      simp only [hc] at hp hF ⊢
      match zs, hF with
      | [], _ => trivial
      | [i], hF =>
        intro j h1 h2
        rw [hp d1 (d2 + j) ⟨_, List.mem_cons_self, rfl, by simp, by show d2 + j ≤ d2 + 276; omega⟩, hp s1 (s2 + j) ⟨_, List.mem_cons_of_mem _ List.mem_cons_self, rfl, by simp, by show s2 + j ≤ s2 + 276; omega⟩]
        exact hF j h1 h2
      | _ :: _ :: _, _ => trivial
    | none =>
      simp only [hc] at hp hF ⊢
      split at hF
      · simp only at hp
        obtain ⟨h3, h2, hh⟩ := hJ 94 0 hp
        obtain ⟨cn, k, a1, a2, a3, a4, a5, a6, a7, a8⟩ := hF
        simp only [Nat.zero_add] at h3 h2
        refine ⟨cn, k, a1, a2, a3, a4, by rw [h3]; exact a5, by rw [h3]; exact a6, by rw [hh cn a3, hh k a4]; exact a7, ?_⟩
        rw [h3, h2]
        refine r_blk_congr (fun j hj => ?_) a8
        unfold r_up
        split
        · rfl
        · exact (hh j hj).symm
      · simp only at hp
        have h3 := q_i_eq (hp 94 3 ⟨_, List.mem_singleton.mpr rfl, rfl, Nat.le_refl _, Nat.le_refl _⟩)
        rw [h3]
        exact hF
      · -- 30
        simp only at hp
        have hw := hW hp
        obtain ⟨k, a1, a2, a3⟩ := hF
        refine ⟨k, a1, a2, ?_⟩
        rw [r_cnt_congr (f := r_home m1 94 0) (g := r_home m 94 0) (n := k) (fun j hj => hw (0 + 7 + 6 * j) (by omega))]
        exact a3
      · -- 32
        simp only at hp
        have hw := hW hp
        obtain ⟨k, a1, a2, a3, a4⟩ := hF
        exact ⟨k, a1, by rw [hw 3 (by omega)]; exact a2, hS hw k a1 a3, (hw _ (by omega)).trans a4⟩
      · -- 33
        simp only at hp
        have hw := hW hp
        obtain ⟨k, a1, a2, a3, a4, a5⟩ := hF
        exact ⟨k, a1, by rw [hw 3 (by omega)]; exact a2, hS hw k a1 a3, (hw _ (by omega)).trans a4, a5⟩
      · -- 34
        simp only at hp
        have hw := hW hp
        obtain ⟨k, a1, a2, a3⟩ := hF
        exact ⟨k, a1, by rw [hw 3 (by omega)]; exact a2, hS hw k a1 a3⟩
      · -- 35
        simp only at hp
        have hw := hW hp
        obtain ⟨k, a1, a2, a3, a4⟩ := hF
        exact ⟨k, a1, by rw [hw 3 (by omega)]; exact a2, hS hw k a1 a3, by rw [show r_home m1 94 0 k = r_home m 94 0 k from hw _ (by omega)]; exact a4⟩
      · -- 38
        simp only at hp
        obtain ⟨h3, h2, hh⟩ := hJ 94 0 hp
        simp only [Nat.zero_add] at h3 h2
        obtain ⟨k, a1, a2, a3⟩ := hF
        exact ⟨k, a1, by rw [h3]; exact a2, by rw [hh k a1]; exact a3⟩
      · -- 39
        simp only at hp
        obtain ⟨h3, h2, hh⟩ := hJ 94 0 hp
        simp only [Nat.zero_add] at h3 h2
        obtain ⟨k, a1, a2, a3⟩ := hF
        exact ⟨k, a1, by rw [h3]; exact a2, by rw [hh k a1]; exact a3⟩
      · -- 40
        simp only at hp
        obtain ⟨h3, h2, hh⟩ := hJ 94 0 hp
        simp only [Nat.zero_add] at h3 h2
        obtain ⟨k, a1, a2, a3, a4⟩ := hF
        exact ⟨k, a1, by rw [h3]; exact a2, by rw [hh k a1]; exact a3, a4⟩
      · -- 97
        simp only at hp
        have e := bi_ext hI0 hI1 hI.2.2.2.2.2 (fun c j hc hj => hp c j ⟨_, List.mem_map.mpr ⟨c, List.mem_range.mpr (by have := hI.2.2.2.2.1; omega), rfl⟩, rfl, Nat.zero_le _, hj⟩)
        rw [e]
        exact hF
      · -- 41
        simp only at hp
        have hw : ∀ j, j ≤ 276 → q_i m1 99 j = q_i m 99 j := fun j hj => q_i_eq (hp 99 j ⟨_, List.mem_singleton.mpr rfl, rfl, Nat.zero_le _, hj⟩)
        obtain ⟨k, a1, a2, a3⟩ := hF
        refine ⟨k, a1, a2, ?_⟩
        rw [r_cnt_congr (f := r_home m1 99 0) (g := r_home m 99 0) (n := k) (fun j hj => hw (0 + 7 + 6 * j) (by omega))]
        exact a3
      · -- 42
        simp only at hp
        have hw : ∀ j, j ≤ 276 → q_i m1 99 j = q_i m 99 j := fun j hj => q_i_eq (hp 99 j ⟨_, List.mem_singleton.mpr rfl, rfl, Nat.zero_le _, hj⟩)
        obtain ⟨k, a1, a2, a3⟩ := hF
        refine ⟨k, (hw 3 (by omega)).trans a1, a2, ?_⟩
        rw [r_cnt_congr (f := r_home m1 99 0) (g := r_home m 99 0) (n := k) (fun j hj => hw (0 + 7 + 6 * j) (by omega))]
        exact a3
      · -- 43
        exact hF
      · -- 44
        simp only at hp
        have hw : ∀ j, j ≤ 276 → q_i m1 99 j = q_i m 99 j := fun j hj => q_i_eq (hp 99 j ⟨_, List.mem_singleton.mpr rfl, rfl, Nat.zero_le _, hj⟩)
        obtain ⟨k, a1, a2, a3⟩ := hF
        refine ⟨k, (hw 3 (by omega)).trans a1, a2, ?_⟩
        rw [r_cnt_congr (f := r_home m1 99 0) (g := r_home m 99 0) (n := k) (fun j hj => hw (0 + 7 + 6 * j) (by omega))]
        exact a3
      · -- the others
        by_cases hk : r_kd id = none ∧ r_kd3 id = false ∧ r_kd5 id = false ∧ r_k6 id = 0
        · unfold r_F2 r_F3
          rw [hk.1]
          simp only
          have h3 := hk.2.1
          unfold r_kd3 at h3
          split <;> first | exact r_F5_no hk.2.2.1 hk.2.2.2 | (exfalso; revert h3; decide)
        · refine r_bgF2 hI id _ m m1 hI0 hI1 (fun c j h => hp c j ?_) hF
          split <;> first | exact h | (exact absurd ⟨rfl, rfl, rfl, rfl⟩ hk)
end GH

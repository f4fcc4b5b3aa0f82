/-! THE MARRIAGES: what the rules stand on -/
section BFS
variable {W A H Q : Nat → Int} {g l : Int}
def z_up (f : Nat → Int) (k : Nat) (z : Int) : Nat → Int := fun j => if j = k then z else f j
theorem z_up_eq {f : Nat → Int} {k : Nat} {z : Int} : z_up f k z k = z := by simp [z_up]
theorem z_up_ne {f : Nat → Int} {k j : Nat} {z : Int} (h : j ≠ k) : z_up f k z j = f j := by simp [z_up, h]
theorem z_cg_le : ∀ n, z_cg A H n ≤ n
  | 0 => Nat.le_refl _
  | n + 1 => by
    have := z_cg_le n
    unfold z_cg
    split <;> omega
theorem z_cg_lt {k : Nat} (hk : ¬ 0 ≤ H k) : ∀ n, k < n → z_cg A H n + 1 ≤ n
  | 0, h => by omega
  | n + 1, h => by
    have h1 := z_cg_le (A := A) (H := H) n
    unfold z_cg
    by_cases e : k = n
    · subst e
      rw [if_neg (fun q => hk q.1)]
      omega
    · have := z_cg_lt hk n (by omega)
      split <;> omega
theorem z_cg_mono {A' : Nat → Int} : ∀ n, (∀ k, k < n → 0 ≤ H k → 0 ≤ A (H k).toNat → 0 ≤ A' (H k).toNat) → z_cg A H n ≤ z_cg A' H n
  | 0, _ => Nat.le_refl _
  | n + 1, h => by
    have ih := z_cg_mono n (fun k hk => h k (by omega))
    unfold z_cg
    by_cases c : 0 ≤ H n ∧ 0 ≤ A (H n).toNat
    · rw [if_pos c, if_pos ⟨c.1, h n (by omega) c.1 c.2⟩]
      omega
    · rw [if_neg c]
      omega
theorem z_cg_more {A' : Nat → Int} {k3 : Nat} (h1 : 0 ≤ H k3) (h2 : ¬ 0 ≤ A (H k3).toNat) (h3 : 0 ≤ A' (H k3).toNat) : ∀ n, k3 < n → (∀ k, k < n → 0 ≤ H k → 0 ≤ A (H k).toNat → 0 ≤ A' (H k).toNat) → z_cg A H n + 1 ≤ z_cg A' H n
  | 0, h, _ => by omega
  | n + 1, h, hm => by
    have im := z_cg_mono (A := A) (A' := A') (H := H) n (fun k hk => hm k (by omega))
    unfold z_cg
    by_cases e : k3 = n
    · subst e
      rw [if_neg (fun q => h2 q.2), if_pos ⟨h1, h3⟩]
      omega
    · have ih := z_cg_more h1 h2 h3 n (by omega) (fun k hk => hm k (by omega))
      by_cases c : 0 ≤ H n ∧ 0 ≤ A (H n).toNat
      · rw [if_pos c, if_pos ⟨c.1, hm n (by omega) c.1 c.2⟩]
        omega
      · rw [if_neg c]
        omega
theorem z_ca_le : ∀ n, z_ca A n ≤ n
  | 0 => Nat.le_refl _
  | n + 1 => by
    have := z_ca_le n
    unfold z_ca
    split <;> omega
theorem z_ca_up {k : Nat} {z : Int} (h1 : ¬ 0 ≤ A k) (h2 : 0 ≤ z) : ∀ n, (n ≤ k → z_ca (z_up A k z) n = z_ca A n) ∧ (k < n → z_ca (z_up A k z) n = z_ca A n + 1)
  | 0 => ⟨fun _ => rfl, fun h => by omega⟩
  | n + 1 => by
    obtain ⟨i1, i2⟩ := z_ca_up h1 h2 n
    unfold z_ca
    refine ⟨fun h => ?_, fun h => ?_⟩
    · rw [i1 (by omega), z_up_ne (by omega)]
    · by_cases e : k = n
      · subst e
        rw [i1 (Nat.le_refl _), z_up_eq, if_pos h2, if_neg h1]
      · rw [i2 (by omega), z_up_ne (fun q => e q.symm)]
        omega
/-- a boy is asked -/
theorem z_ask {k n : Nat} (hn : n < 20) (hk : k < 20) (hA : ¬ 0 ≤ A n) (h : z_bf W A H Q g l 0 (fun rk => ∃ j : Nat, j < 20 ∧ (k : Int) = j ∧ rk j)) (hl : l ≤ 1 + z_cg A H 20) :
    z_bf W (z_up A n k) H Q g l 1 (fun rk => ∃ j : Nat, j < 20 ∧ (k : Int) = j ∧ rk j) ∧ (0 ≤ W n → l ≤ z_cg (z_up A n k) H 20) := by
  obtain ⟨h1, h2, h3, h4, rb, rg, rk, T, ⟨r1, r2⟩, t1, t2, t3, q1, j0, j1, j2, p1⟩ := h
  have ej : j0 = k := by omega
  subst ej
  have hup : ∀ b : Nat, 0 ≤ A b → z_up A n j0 b = A b := fun b hb => z_up_ne (fun q => by subst q; exact hA hb)
  refine ⟨⟨h1, h2, h3, ?_, fun b => if b = n then T else rb b, rg, rk, T + 1, ⟨?_, ?_⟩, ?_, ?_, ?_, q1, j0, j1, rfl, p1⟩, ?_⟩
  · intro b hb
    have := h4 b hb
    by_cases e : b = n
    · subst e
      rw [z_up_eq]
      omega
    · rw [z_up_ne e]
      exact this
  · intro b hb i hi hab
    by_cases e : b = n
    · subst e
      rw [z_up_eq] at hab
      have : i = j0 := by omega
      subst this
      simp only [if_true]
      exact ⟨p1, t2 i hi p1⟩
    · rw [z_up_ne e] at hab
      simp only [if_neg e]
      exact r1 b hb i hi hab
  · intro i hi hr hlim
    obtain ⟨a1, a2⟩ := r2 i hi hr hlim
    refine ⟨a1, ?_⟩
    rcases a2 with a2 | ⟨b, b1, b2, b3, b4⟩
    · exact Or.inl a2
    · refine Or.inr ⟨b, b1, b2, by rw [hup b b3]; exact b3, ?_⟩
      have : b ≠ n := fun q => by subst q; exact hA b3
      simp only [if_neg this]
      exact b4
  · intro b hb hab
    by_cases e : b = n
    · simp only [if_pos e]
      omega
    · rw [z_up_ne e] at hab
      simp only [if_neg e]
      have := t1 b hb hab
      omega
  · intro i hi hr
    have := t2 i hi hr
    omega
  · have := (z_ca_up (A := A) (k := n) (z := (j0 : Int)) hA (by omega) 20).2 hn
    omega
  · intro hW
    have hw := h4 n hn
    obtain ⟨k3, hk3⟩ : ∃ i : Nat, W n = i := ⟨(W n).toNat, by omega⟩
    have hH := h1 n hn (by omega) k3 (by omega) hk3
    have hto : (H k3).toNat = n := by omega
    have := z_cg_more (A := A) (A' := z_up A n j0) (H := H) (k3 := k3) (by omega) (by rw [hto]; exact hA) (by rw [hto, z_up_eq]; omega) 20 (by omega) (fun i hi hi1 hi2 => by rw [hup _ hi2]; exact hi2)
    omega
/-- a girl behind in the queue -/
theorem z_push {n k3 ln : Nat} {P : (Nat → Prop) → Prop} (hP : ∀ rk rk' : Nat → Prop, (∀ i, rk i → rk' i) → P rk → P rk') (hn : n < 20) (hln : l = ln) (hl20 : ln < 20) (hA : 0 ≤ A n) (hW : W n = k3) (h : z_bf W A H Q g l 1 P) (hl : l ≤ z_cg A H 20) :
    z_bf W A H (z_up Q ln k3) g (l + 1) 0 P ∧ l + 1 ≤ 1 + z_cg A H 20 := by
  obtain ⟨h1, h2, h3, h4, rb, rg, rk, T, ⟨r1, r2⟩, t1, t2, t3, q1, p1⟩ := h
  have hw := h4 n hn
  have hk3 : k3 < 20 := by omega
  have hH := h1 n hn (by omega) k3 hk3 hW
  have hca := z_ca_le (A := A) 20
  refine ⟨⟨h1, h2, h3, h4, ?_⟩, by omega⟩
  by_cases hr : rk k3
  · refine ⟨rb, rg, rk, T, ⟨r1, r2⟩, t1, t2, by omega, ?_, p1⟩
    intro j hj hjl
    by_cases e : j = ln
    · subst e
      exact ⟨k3, hk3, z_up_eq, hr⟩
    · rw [z_up_ne e]
      exact q1 j hj (by omega)
  · refine ⟨rb, fun i => if i = k3 then T else rg i, fun i => rk i ∨ i = k3, T + 1, ⟨?_, ?_⟩, ?_, ?_, by omega, ?_, hP rk _ (fun i hi => Or.inl hi) p1⟩
    · intro b hb i hi hab
      obtain ⟨a1, a2⟩ := r1 b hb i hi hab
      have : i ≠ k3 := fun q => by subst q; exact hr a1
      simp only [if_neg this]
      exact ⟨Or.inl a1, a2⟩
    · intro i hi hri hlim
      by_cases e : i = k3
      · subst e
        simp only [if_true] at hlim ⊢
        refine ⟨?_, Or.inr ⟨n, hn, hH, hA, t1 n hn hA⟩⟩
        by_cases hg : g ≤ i
        · have := h3 i hi hg
          omega
        · omega
      · simp only [if_neg e] at hlim ⊢
        have hri : rk i := hri.elim id (fun q => absurd q e)
        exact r2 i hi hri hlim
    · intro b hb hab
      have := t1 b hb hab
      omega
    · intro i hi hri
      by_cases e : i = k3
      · simp only [if_pos e]
        omega
      · simp only [if_neg e]
        have := t2 i hi (hri.elim id (fun q => absurd q e))
        omega
    · intro j hj hjl
      by_cases e : j = ln
      · subst e
        exact ⟨k3, hk3, z_up_eq, Or.inr rfl⟩
      · rw [z_up_ne e]
        obtain ⟨k, a1, a2, a3⟩ := q1 j hj (by omega)
        exact ⟨k, a1, a2, Or.inl a3⟩
/-- one step of the way back -/
theorem z_lead {n k : Nat} {r : Int} {rb rg : Nat → Nat} {rk : Nat → Prop} (hn : n < 20) (hk : k < 20) (hW : W n = k) (hA : A n = k) (hi : z_inv W H n) (hg : ∀ i : Nat, i < 20 → g < i → H i = -1) (hr : ∀ i : Nat, i < 20 → -1 ≤ H i ∧ H i < 20) (hA20 : ∀ j : Nat, j < 20 → A j < 20) (hz : z_rk A H g rb rg rk (rb n)) (hb : (rb n : Int) ≤ r) :
    z_inv W (z_up H k n) (H k) ∧ (∀ i : Nat, i < 20 → g < i → z_up H k n i = -1) ∧ (0 ≤ H k → ∃ (n' : Nat) (rb rg : Nat → Nat) (rk : Nat → Prop), H k = n' ∧ n' < 20 ∧ (∃ i : Nat, i < 20 ∧ A n' = i) ∧ z_rk A (z_up H k n) g rb rg rk (rb n') ∧ (rb n' : Int) ≤ r - 1) := by
  obtain ⟨r1, r2⟩ := hz
  obtain ⟨s1, s2⟩ := r1 n hn k hk hA
  obtain ⟨s3, s4⟩ := r2 k hk s1 s2
  refine ⟨?_, ?_, ?_⟩
  · intro b hb hne i hi2 hwb
    by_cases e : b = n
    · subst e
      have : i = k := by omega
      subst this
      exact z_up_eq
    · have h1 := hi b hb (by omega) i hi2 hwb
      have : i ≠ k := fun q => by subst q; exact hne h1.symm
      rw [z_up_ne this]
      exact h1
  · intro i hi1 hi2
    rw [z_up_ne (by omega)]
    exact hg i hi1 hi2
  · intro h0
    rcases s4 with s4 | ⟨b, b1, b2, b3, b4⟩
    · omega
    · refine ⟨b, rb, rg, rk, b2, b1, ⟨(A b).toNat, by have := hA20 b b1; omega, by omega⟩, ⟨r1, ?_⟩, by omega⟩
      intro i hi1 hi2 hlim
      have : i ≠ k := fun q => by subst q; omega
      obtain ⟨a1, a2⟩ := r2 i hi1 hi2 (by omega)
      rw [z_up_ne this]
      exact ⟨a1, a2⟩
end BFS

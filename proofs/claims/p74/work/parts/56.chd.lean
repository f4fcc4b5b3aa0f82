/-! ONE MORE CHILD: what the rules of the reading will stand on -/
theorem r_blk_N {N H : Int} {f f1 : Nat → Int} (h : ∀ k : Nat, k < 20 → (k : Int) < N → f k = f1 k) (hb : r_blk N H f) : r_blk N H f1 := by
  refine ⟨fun k h1 h2 => ?_, fun x hN => ?_⟩
  · rw [← h k h1 h2]
    exact hb.1 k h1 h2
  · rw [← r_cnt_congr (f := f) (fun k hk => h k (by omega) (by omega))]
    exact hb.2 x hN
theorem r_blk_H {N H H1 : Int} {f : Nat → Int} (hH : H ≤ H1) (hb : r_blk N H f) : r_blk N H1 f :=
  ⟨fun k h1 h2 => by have := hb.1 k h1 h2; omega, hb.2⟩
theorem r_blk_1 {N H : Int} {n : Nat} {f : Nat → Int} (hn : N = n) (h20 : n < 20) (hb : r_blk N H f) (h1 : 0 ≤ f n) (h2 : f n < H) (hc : r_cnt f (f n) n ≤ 5) : r_blk (N + 1) H f := by
  subst hn
  refine ⟨fun k k1 k2 => ?_, fun x hN => ?_⟩
  · by_cases e : k = n
    · subst e
      exact ⟨h1, h2⟩
    · exact hb.1 k k1 (by omega)
  · have e : ((n : Int) + 1).toNat = n + 1 := by omega
    rw [e]
    unfold r_cnt
    by_cases ex : f n = x
    · subst ex
      rw [if_pos rfl]
      omega
    · rw [if_neg ex]
      have := hb.2 x (by omega)
      have e2 : ((n : Int)).toNat = n := by omega
      rw [e2] at this
      omega

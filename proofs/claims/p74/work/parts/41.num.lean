/-! NUMBERS THAT A STEP MAKES -/
abbrev b_R : Type := Nat × a_B × List b_T × b_N
def b_new (k : Nat) (B : a_B) (C : List b_T) (lg : Bool) (lo hi : Int) : b_R := if lo = hi then (k, B, C, (lg, b_c lo)) else (k + 1, (k, lo, hi) :: B, C, (lg, ([(k, 1)], 0)))
def b_top (k : Nat) (B : a_B) (C : List b_T) (lg : Bool) : b_R := b_new k B C lg (a_rng lg).1 (a_rng lg).2
/-- the term, where it is within its type -/
def b_num (k : Nat) (B : a_B) (C : List b_T) (lg : Bool) (t : b_T) : b_R := match b_iv B t with
  | some p => if (a_rng lg).1 ≤ p.1 ∧ p.2 ≤ (a_rng lg).2 then (k, B, C, (lg, t)) else b_top k B C lg
  | none => b_top k B C lg
/-- by the bounds of two -/
def b_by (k : Nat) (B : a_B) (C : List b_T) (lg : Bool) (f : Int × Int → Int × Int → Option (Int × Int)) (x y : b_T) : b_R := match b_iv B x, b_iv B y with
  | some p, some q => (match f p q with
    | some r => b_new k B C lg r.1 r.2
    | none => b_top k B C lg)
  | _, _ => b_top k B C lg
def b_mulf (p q : Int × Int) : Option (Int × Int) := if 0 ≤ p.1 ∧ 0 ≤ q.1 ∧ p.2 * q.2 ≤ 2147483647 then some (p.1 * q.1, p.2 * q.2) else none
def b_mul (k : Nat) (B : a_B) (C : List b_T) (lg : Bool) (x y : b_T) : b_R := match b_iv B x, b_iv B y with
  | some p, some q => if p.1 = p.2 then b_num k B C lg (b_sc p.1 y) else if q.1 = q.2 then b_num k B C lg (b_sc q.1 x) else (match lg with | false => b_by k B C lg b_mulf x y | true => b_top k B C lg)
  | _, _ => b_top k B C lg
def b_andf (p q : Int × Int) : Option (Int × Int) := if 0 ≤ p.1 then (if 0 ≤ q.1 then some (0, a_mn p.2 q.2) else some (0, p.2)) else if 0 ≤ q.1 then some (0, q.2) else none
def b_orf (p q : Int × Int) : Option (Int × Int) := if 0 ≤ p.1 ∧ 0 ≤ q.1 ∧ p.2 < 1048576 ∧ q.2 < 1048576 then some (0, 1048575) else none
def b_shlf (p q : Int × Int) : Option (Int × Int) := if 0 ≤ p.1 ∧ 0 ≤ q.1 ∧ q.2 ≤ 30 ∧ p.2 * 2 ^ q.2.toNat ≤ 2147483647 then some (p.1 * 2 ^ q.1.toNat, p.2 * 2 ^ q.2.toNat) else none
def b_shrf (p _ : Int × Int) : Option (Int × Int) := some (if 0 ≤ p.1 then (0, p.2) else (p.1, a_mx p.2 (-1)))
def b_divf (p q : Int × Int) : Option (Int × Int) := if 0 < q.1 then some (if 0 ≤ p.1 then 0 else Int.tdiv p.1 q.1, if 0 ≤ p.2 then p.2 / q.1 else 0) else none
/-- bits in common: not more than the one -/
def b_and (k : Nat) (B : a_B) (C : List b_T) (x y : b_T) : b_R := match x.1, y.1 with
  | _ :: _, _ :: _ => (match b_iv B x, b_iv B y with
    | some p, some q => if 0 ≤ p.1 ∧ 0 ≤ q.1 then (k + 1, (k, 0, a_mn p.2 q.2) :: B, b_ad x (-1) ([(k, 1)], 0) :: C, (false, ([(k, 1)], 0))) else b_by k B C false b_andf x y
    | _, _ => b_by k B C false b_andf x y)
  | _, _ => b_by k B C false b_andf x y
/-- all bits turned -/
def b_xor (k : Nat) (B : a_B) (C : List b_T) (x y : b_T) : b_R := if y = b_c (-1) then (k, B, C, (false, b_ad (b_c (-1)) (-1) x)) else b_top k B C false
/-- a rest of longs: less than the divisor, of the other's sign -/
def b_lrem (k : Nat) (B : a_B) (C : List b_T) (x y : b_T) : b_R := match b_iv B x, b_iv B y with
  | some p, some q =>
    if 0 < q.1 then
      (if 0 ≤ p.1 then (k + 1, (k, 0, q.2 - 1) :: B, b_ad (y.1, y.2 - 1) (-1) ([(k, 1)], 0) :: C, (true, ([(k, 1)], 0)))
      else if p.2 ≤ 0 then (k + 1, (k, 1 - q.2, 0) :: B, b_ad (y.1, y.2 - 1) 1 ([(k, 1)], 0) :: C, (true, ([(k, 1)], 0)))
      else b_new k B C true (1 - q.2) (q.2 - 1))
    else if q.2 < 0 then
      (if 0 ≤ p.1 then (k + 1, (k, 0, - q.1 - 1) :: B, b_ad (b_ad (b_c (-1)) (-1) y) (-1) ([(k, 1)], 0) :: C, (true, ([(k, 1)], 0)))
      else if p.2 ≤ 0 then (k + 1, (k, q.1 + 1, 0) :: B, b_ad (b_ad (b_c (-1)) (-1) y) 1 ([(k, 1)], 0) :: C, (true, ([(k, 1)], 0)))
      else b_new k B C true (q.1 + 1) (- q.1 - 1))
    else b_top k B C true
  | _, _ => b_top k B C true
def bg_R (v : List Int) (r : b_R) (lg : Bool) (z : Int) : Prop := ∃ t : List Int, (v ++ t).length = r.1 ∧ g_B (v ++ t) r.2.1 ∧ bg_C (v ++ t) r.2.2.1 ∧ r.2.2.2.1 = lg ∧ b_is (v ++ t) r.2.2.2.2 z
section BNUM
variable {v : List Int} {k : Nat} {B : a_B} {C : List b_T}
theorem bg_R0 (hk : v.length = k) (hB : g_B v B) (hC : bg_C v C) {lg : Bool} {t : b_T} {z : Int} (h : b_is v t z) : bg_R v (k, B, C, (lg, t)) lg z := ⟨[], by simpa using hk, by simpa using hB, by simpa using hC, rfl, by simpa using h⟩
theorem b_new_ok (hk : v.length = k) (hB : g_B v B) (hC : bg_C v C) {lg : Bool} {lo hi z : Int} (h1 : lo ≤ z) (h2 : z ≤ hi) : bg_R v (b_new k B C lg lo hi) lg z := by
  unfold b_new
  split
  · refine bg_R0 hk hB hC ?_
    have : z = lo := by omega
    subst this
    exact b_is_c _
  · have hv : (v ++ [z])[k]? = some z := by
      subst hk
      simp
    refine ⟨[z], by simp [hk], ?_, bg_C_ext hC, rfl, b_is_var hv⟩
    intro q hq
    rcases List.mem_cons.mp hq with rfl | hq
    · exact ⟨z, hv, h1, h2⟩
    · exact g_B_ext hB q hq
theorem b_top_ok (hk : v.length = k) (hB : g_B v B) (hC : bg_C v C) {lg : Bool} {z : Int} (h : g_in lg z) : bg_R v (b_top k B C lg) lg z := b_new_ok hk hB hC h.1 h.2
theorem b_num_ok (hk : v.length = k) (hB : g_B v B) (hC : bg_C v C) {lg : Bool} {t : b_T} {z w : Int} (ht : b_is v t w) (hw : g_in lg w → z = w) (hz : g_in lg z) : bg_R v (b_num k B C lg t) lg z := by
  unfold b_num
  split
  · rename_i p hp
    split
    · rename_i h
      have := b_iv_ok hB hp ht
      have e := hw ⟨by omega, by omega⟩
      subst e
      exact bg_R0 hk hB hC ht
    · exact b_top_ok hk hB hC hz
  · exact b_top_ok hk hB hC hz
theorem b_by_ok (hk : v.length = k) (hB : g_B v B) (hC : bg_C v C) {lg : Bool} {f : Int × Int → Int × Int → Option (Int × Int)} {x y : b_T} {a b z : Int} (hx : b_is v x a) (hy : b_is v y b) (hz : g_in lg z) (hf : ∀ p q r, f p q = some r → p.1 ≤ a ∧ a ≤ p.2 → q.1 ≤ b ∧ b ≤ q.2 → r.1 ≤ z ∧ z ≤ r.2) : bg_R v (b_by k B C lg f x y) lg z := by
  unfold b_by
  split
  · rename_i p q hp hq
    split
    · rename_i r hr
      have := hf p q r hr (b_iv_ok hB hp hx) (b_iv_ok hB hq hy)
      exact b_new_ok hk hB hC this.1 this.2
    · exact b_top_ok hk hB hC hz
  · exact b_top_ok hk hB hC hz
theorem b_add32_ok (hk : v.length = k) (hB : g_B v B) (hC : bg_C v C) {x y : b_T} {a b : Int32} (hx : b_is v x a.toInt) (hy : b_is v y b.toInt) : bg_R v (b_num k B C false (b_ad x 1 y)) false (a + b).toInt := by
  have h := b_is_ad (k := 1) hx hy
  rw [Int.one_mul] at h
  exact b_num_ok hk hB hC h (fun h => g_add32 h) (g_in32 _)
theorem b_sub32_ok (hk : v.length = k) (hB : g_B v B) (hC : bg_C v C) {x y : b_T} {a b : Int32} (hx : b_is v x a.toInt) (hy : b_is v y b.toInt) : bg_R v (b_num k B C false (b_ad x (-1) y)) false (a - b).toInt := by
  have h := b_is_ad (k := -1) hx hy
  rw [show a.toInt + -1 * b.toInt = a.toInt - b.toInt by omega] at h
  exact b_num_ok hk hB hC h (fun h => g_sub32 h) (g_in32 _)
theorem b_add64_ok (hk : v.length = k) (hB : g_B v B) (hC : bg_C v C) {x y : b_T} {a b : Int64} (hx : b_is v x a.toInt) (hy : b_is v y b.toInt) : bg_R v (b_num k B C true (b_ad x 1 y)) true (a + b).toInt := by
  have h := b_is_ad (k := 1) hx hy
  rw [Int.one_mul] at h
  exact b_num_ok hk hB hC h (fun h => g_add64 h) (g_in64 _)
theorem b_sub64_ok (hk : v.length = k) (hB : g_B v B) (hC : bg_C v C) {x y : b_T} {a b : Int64} (hx : b_is v x a.toInt) (hy : b_is v y b.toInt) : bg_R v (b_num k B C true (b_ad x (-1) y)) true (a - b).toInt := by
  have h := b_is_ad (k := -1) hx hy
  rw [show a.toInt + -1 * b.toInt = a.toInt - b.toInt by omega] at h
  exact b_num_ok hk hB hC h (fun h => g_sub64 h) (g_in64 _)
theorem b_neg32_ok (hk : v.length = k) (hB : g_B v B) (hC : bg_C v C) {x : b_T} {a : Int32} (hx : b_is v x a.toInt) : bg_R v (b_num k B C false (b_sc (-1) x)) false (-a).toInt := by
  have h := b_is_sc (k := -1) hx
  refine b_num_ok hk hB hC h (fun h => ?_) (g_in32 _)
  rw [Int32.toInt_neg]
  have h1 : (-2147483648 : Int) ≤ -1 * a.toInt := h.1
  have h2 : -1 * a.toInt ≤ (2147483647 : Int) := h.2
  rw [show -1 * a.toInt = -a.toInt by omega] at *
  exact Int.bmod_eq_of_le (by omega) (by omega)
theorem g_mul64 (hk : v.length = k) (hB : g_B v B) (hC : bg_C v C) {x y : Int64} (h : g_in true (x.toInt * y.toInt)) : (x * y).toInt = x.toInt * y.toInt := by
  rw [Int64.toInt_mul]
  have h1 : (-9223372036854775808 : Int) ≤ x.toInt * y.toInt := h.1
  have h2 : x.toInt * y.toInt ≤ (9223372036854775807 : Int) := h.2
  exact Int.bmod_eq_of_le (by omega) (by omega)
theorem b_mul32_ok (hk : v.length = k) (hB : g_B v B) (hC : bg_C v C) {x y : b_T} {a b : Int32} (hx : b_is v x a.toInt) (hy : b_is v y b.toInt) : bg_R v (b_mul k B C false x y) false (a * b).toInt := by
  unfold b_mul
  split
  · rename_i p q hp hq
    have h1 := b_iv_ok hB hp hx
    have h2 := b_iv_ok hB hq hy
    split
    · have e : p.1 = a.toInt := by omega
      rw [e]
      exact b_num_ok hk hB hC (b_is_sc hy) (fun h => g_mul32 h) (g_in32 _)
    · split
      · have e : q.1 = b.toInt := by omega
        rw [e]
        refine b_num_ok hk hB hC (b_is_sc hx) (fun h => ?_) (g_in32 _)
        rw [Int.mul_comm] at h ⊢
        exact g_mul32 h
      · refine b_by_ok hk hB hC hx hy (g_in32 _) ?_
        intro p q r hr hp hq
        unfold b_mulf at hr
        split at hr
        · rename_i hc
          cases hr
          have h3 : 0 ≤ a.toInt * b.toInt := Int.mul_nonneg (by omega) (by omega)
          have h4 : a.toInt * b.toInt ≤ p.2 * q.2 := Int.mul_le_mul hp.2 hq.2 (by omega) (by omega)
          have h5 : p.1 * q.1 ≤ a.toInt * b.toInt := Int.mul_le_mul hp.1 hq.1 (by omega) (by omega)
          rw [g_mul32 ⟨by show (-2147483648 : Int) ≤ _; omega, by show _ ≤ (2147483647 : Int); omega⟩]
          exact ⟨h5, h4⟩
        · cases hr
  · exact b_top_ok hk hB hC (g_in32 _)
theorem b_mul64_ok (hk : v.length = k) (hB : g_B v B) (hC : bg_C v C) {x y : b_T} {a b : Int64} (hx : b_is v x a.toInt) (hy : b_is v y b.toInt) : bg_R v (b_mul k B C true x y) true (a * b).toInt := by
  unfold b_mul
  split
  · rename_i p q hp hq
    have h1 := b_iv_ok hB hp hx
    have h2 := b_iv_ok hB hq hy
    split
    · have e : p.1 = a.toInt := by omega
      rw [e]
      exact b_num_ok hk hB hC (b_is_sc hy) (fun h => g_mul64 hk hB hC h) (g_in64 _)
    · split
      · have e : q.1 = b.toInt := by omega
        rw [e]
        refine b_num_ok hk hB hC (b_is_sc hx) (fun h => ?_) (g_in64 _)
        rw [Int.mul_comm] at h ⊢
        exact g_mul64 hk hB hC h
      · exact b_top_ok hk hB hC (g_in64 _)
  · exact b_top_ok hk hB hC (g_in64 _)
theorem b_and32_ok (hk : v.length = k) (hB : g_B v B) (hC : bg_C v C) {x y : b_T} {a b : Int32} (hx : b_is v x a.toInt) (hy : b_is v y b.toInt) : bg_R v (b_by k B C false b_andf x y) false (a &&& b).toInt := by
  refine b_by_ok hk hB hC hx hy (g_in32 _) ?_
  intro p q r hr hp hq
  unfold b_andf at hr
  split at hr
  · have h1 := g_and_l (x := a) (y := b) (by omega)
    split at hr
    · cases hr
      have h2 := g_and_r (x := a) (y := b) (by omega)
      exact ⟨h1.1, a_mn_ge (by omega) (by omega)⟩
    · cases hr
      exact ⟨h1.1, by simp only; omega⟩
  · split at hr
    · cases hr
      have h2 := g_and_r (x := a) (y := b) (by omega)
      exact ⟨h2.1, by simp only; omega⟩
    · cases hr
theorem b_shr32_ok (hk : v.length = k) (hB : g_B v B) (hC : bg_C v C) {x y : b_T} {a b : Int32} (hx : b_is v x a.toInt) (hy : b_is v y b.toInt) : bg_R v (b_by k B C false b_shrf x y) false (a >>> (b &&& 31)).toInt := by
  refine b_by_ok hk hB hC hx hy (g_in32 _) ?_
  intro p q r hr hp hq
  cases hr
  have := g_shrb (x := a) (y := b) (a := p) (b := q) hp
  unfold a_shr at this
  exact this
end BNUM
theorem b_nn32 {x : Int32} (h : 0 ≤ x.toInt) : x.toInt = (x.toBitVec.toNat : Int) ∧ x.toBitVec.toNat < 2 ^ 31 := by
  have h1 : x.toInt = x.toBitVec.toInt := rfl
  rw [h1, BitVec.toInt_eq_toNat_cond] at h ⊢
  have := x.toBitVec.isLt
  split at h <;> rename_i hc
  · rw [if_pos hc]
    exact ⟨rfl, by omega⟩
  · omega
theorem b_or32 {x y : Int32} (hx : 0 ≤ x.toInt) (hx2 : x.toInt < 1048576) (hy : 0 ≤ y.toInt) (hy2 : y.toInt < 1048576) : 0 ≤ (x ||| y).toInt ∧ (x ||| y).toInt ≤ 1048575 := by
  have h1 := b_nn32 hx
  have h2 := b_nn32 hy
  have h3 : (x ||| y).toBitVec.toNat = x.toBitVec.toNat ||| y.toBitVec.toNat := by simp
  have h4 : x.toBitVec.toNat ||| y.toBitVec.toNat < 2 ^ 20 := Nat.or_lt_two_pow (by omega) (by omega)
  have h5 : (x ||| y).toInt = ((x ||| y).toBitVec.toNat : Int) := by
    show (x ||| y).toBitVec.toInt = _
    rw [BitVec.toInt_eq_toNat_cond, if_pos (by rw [h3]; omega)]
  rw [h5, h3]
  omega
theorem b_shl32 {x y : Int32} (hx : 0 ≤ x.toInt) (hy : 0 ≤ y.toInt) (hy2 : y.toInt ≤ 30) (h : x.toInt * 2 ^ y.toInt.toNat ≤ 2147483647) : (x <<< (y &&& 31)).toInt = x.toInt * 2 ^ y.toInt.toNat := by
  have h1 := b_nn32 hx
  have h2 := b_nn32 hy
  have e1 : (y &&& 31) = y := by
    rw [← Int32.toBitVec_inj]
    apply BitVec.eq_of_toNat_eq
    have : (y &&& 31).toBitVec.toNat = y.toBitVec.toNat &&& 31 := by simp
    rw [this]
    exact Nat.and_two_pow_sub_one_of_lt_two_pow (n := 5) (by omega)
  rw [e1]
  have e2 : y.toInt.toNat = y.toBitVec.toNat := by omega
  rw [e2] at h ⊢
  have e3 : (x <<< y).toBitVec.toNat = (x.toBitVec.toNat * 2 ^ y.toBitVec.toNat) % 2 ^ 32 := by
    have e31 : (x <<< y).toBitVec = x.toBitVec <<< (y.toBitVec.smod 32) := rfl
    have e32 : (y.toBitVec.smod 32).toNat = y.toBitVec.toNat := by
      have e33 : y.toBitVec.smod 32 = y.toBitVec := by
        apply BitVec.eq_of_toInt_eq
        rw [BitVec.toInt_smod]
        have : y.toBitVec.toInt = y.toInt := rfl
        rw [this]
        have h32 : (32#32).toInt = 32 := by decide
        show y.toInt.fmod (32#32).toInt = _
        rw [h32, Int.fmod_eq_emod_of_nonneg _ (by omega)]
        omega
      rw [e33]
    rw [e31, BitVec.shiftLeft_eq', BitVec.toNat_shiftLeft, e32, Nat.shiftLeft_eq]
  have e4 : x.toBitVec.toNat * 2 ^ y.toBitVec.toNat ≤ 2147483647 := by
    rw [h1.1] at h
    have : ((x.toBitVec.toNat * 2 ^ y.toBitVec.toNat : Nat) : Int) ≤ 2147483647 := by
      rw [Int.natCast_mul, Int.natCast_pow]
      exact h
    omega
  have e5 : (x <<< y).toBitVec.toNat = x.toBitVec.toNat * 2 ^ y.toBitVec.toNat := by
    rw [e3]
    exact Nat.mod_eq_of_lt (by omega)
  have e6 : (x <<< y).toInt = ((x <<< y).toBitVec.toNat : Int) := by
    show (x <<< y).toBitVec.toInt = _
    rw [BitVec.toInt_eq_toNat_cond, if_pos (by rw [e5]; omega)]
  rw [e6, e5, h1.1, Int.natCast_mul, Int.natCast_pow]
  rfl
theorem b_pow_le {a b : Nat} (h : a ≤ b) : (2 : Int) ^ a ≤ 2 ^ b := by
  have := Nat.pow_le_pow_right (n := 2) (by omega) h
  have h2 : ((2 ^ a : Nat) : Int) ≤ ((2 ^ b : Nat) : Int) := by omega
  rw [Int.natCast_pow, Int.natCast_pow] at h2
  exact h2
theorem b_pow_nn (a : Nat) : (0 : Int) ≤ 2 ^ a := by
  have h2 : (0 : Int) ≤ ((2 ^ a : Nat) : Int) := Int.natCast_nonneg _
  rw [Int.natCast_pow] at h2
  exact h2
section BNUM2
variable {v : List Int} {k : Nat} {B : a_B} {C : List b_T}
theorem b_or32_ok (hk : v.length = k) (hB : g_B v B) (hC : bg_C v C) {x y : b_T} {a b : Int32} (hx : b_is v x a.toInt) (hy : b_is v y b.toInt) : bg_R v (b_by k B C false b_orf x y) false (a ||| b).toInt := by
  refine b_by_ok hk hB hC hx hy (g_in32 _) ?_
  intro p q r hr hp hq
  unfold b_orf at hr
  split at hr
  · cases hr
    exact b_or32 (by omega) (by omega) (by omega) (by omega)
  · cases hr
theorem b_shl32_ok (hk : v.length = k) (hB : g_B v B) (hC : bg_C v C) {x y : b_T} {a b : Int32} (hx : b_is v x a.toInt) (hy : b_is v y b.toInt) : bg_R v (b_by k B C false b_shlf x y) false (a <<< (b &&& 31)).toInt := by
  refine b_by_ok hk hB hC hx hy (g_in32 _) ?_
  intro p q r hr hp hq
  unfold b_shlf at hr
  split at hr
  · rename_i hc
    cases hr
    have h1 : (2 : Int) ^ b.toInt.toNat ≤ 2 ^ q.2.toNat := b_pow_le (by omega)
    have h2 : (2 : Int) ^ q.1.toNat ≤ 2 ^ b.toInt.toNat := b_pow_le (by omega)
    have h3 := b_pow_nn b.toInt.toNat
    have h4 := b_pow_nn q.2.toNat
    have h5 : a.toInt * 2 ^ b.toInt.toNat ≤ p.2 * 2 ^ q.2.toNat := Int.mul_le_mul hp.2 h1 h3 (by omega)
    have h6 : p.1 * 2 ^ q.1.toNat ≤ a.toInt * 2 ^ b.toInt.toNat := Int.mul_le_mul hp.1 h2 (b_pow_nn _) (by omega)
    rw [b_shl32 (by omega) (by omega) (by omega) (by omega)]
    exact ⟨h6, h5⟩
  · cases hr
theorem b_tdiv_nn (hk : v.length = k) (hB : g_B v B) (hC : bg_C v C) {a u b q : Int} (ha : 0 ≤ a) (haq : a ≤ q) (hu : 0 < u) (hub : u ≤ b) : 0 ≤ a.tdiv b ∧ a.tdiv b ≤ q / u := by
  rw [Int.tdiv_eq_ediv_of_nonneg ha]
  have h1 : 0 ≤ a / b := Int.ediv_nonneg ha (by omega)
  refine ⟨h1, (Int.le_ediv_iff_mul_le hu).mpr ?_⟩
  have h2 : a / b * b ≤ a := Int.ediv_mul_le a (by omega)
  have h3 : a / b * u ≤ a / b * b := Int.mul_le_mul_of_nonneg_left hub h1
  omega
theorem b_div32_ok (hk : v.length = k) (hB : g_B v B) (hC : bg_C v C) {x y : b_T} {a b : Int32} (hx : b_is v x a.toInt) (hy : b_is v y b.toInt) : bg_R v (b_by k B C false b_divf x y) false (a / b).toInt := by
  refine b_by_ok hk hB hC hx hy (g_in32 _) ?_
  intro p q r hr hp hq
  unfold b_divf at hr
  split at hr
  rotate_left
  · cases hr
  rename_i hc
  cases hr
  have ha := g_in32 a
  have ha1 : (-2147483648 : Int) ≤ a.toInt := ha.1
  have ha2 : a.toInt ≤ (2147483647 : Int) := ha.2
  have key : (if 0 ≤ p.1 then 0 else Int.tdiv p.1 q.1) ≤ a.toInt.tdiv b.toInt ∧ a.toInt.tdiv b.toInt ≤ (if 0 ≤ p.2 then p.2 / q.1 else 0) ∧ -2147483648 ≤ a.toInt.tdiv b.toInt ∧ a.toInt.tdiv b.toInt ≤ 2147483647 := by
    rcases Int.le_total 0 a.toInt with h0 | h0
    · have h1 := b_tdiv_nn hk hB hC h0 hp.2 hc hq.1
      have h2 := b_tdiv_nn hk hB hC h0 ha2 (show (0 : Int) < 1 by omega) (show 1 ≤ b.toInt by omega)
      rw [Int.ediv_one] at h2
      refine ⟨?_, ?_, by omega, by omega⟩
      · split
        · omega
        · have h3 := (b_tdiv_nn hk hB hC (a := -p.1) (u := 1) (b := q.1) (q := -p.1) (by omega) (by omega) (by omega) (by omega)).1
          rw [Int.neg_tdiv] at h3
          omega
      · rw [if_pos (by omega)]
        exact h1.2
    · have e1 : a.toInt.tdiv b.toInt = -((-a.toInt).tdiv b.toInt) := by rw [Int.neg_tdiv]; omega
      have h1 := b_tdiv_nn hk hB hC (a := -a.toInt) (q := -p.1) (b := b.toInt) (u := q.1) (by omega) (by omega) hc hq.1
      have h2 := b_tdiv_nn hk hB hC (a := -a.toInt) (q := 2147483648) (b := b.toInt) (u := 1) (by omega) (by omega) (by omega) (by omega)
      rw [Int.ediv_one] at h2
      rw [e1]
      refine ⟨?_, ?_, by omega, by omega⟩
      · split
        · have : a.toInt = 0 := by omega
          rw [this]
          simp
        · have e2 : Int.tdiv p.1 q.1 = -((-p.1) / q.1) := by
            rw [← Int.tdiv_eq_ediv_of_nonneg (by omega), Int.neg_tdiv]
            omega
          rw [e2]
          omega
      · split
        · rename_i h5
          have := Int.ediv_nonneg h5 (Int.le_of_lt hc)
          omega
        · omega
  rw [Int32.toInt_div, Int.bmod_eq_of_le (by omega) (by omega)]
  exact ⟨key.1, key.2.1⟩
end BNUM2
theorem b_rem64 (x y : Int64) : (x - x / y * y).toInt = x.toInt.tmod y.toInt := by
  have hx1 := Int64.le_toInt x
  have hx2 := Int64.toInt_lt x
  have hy1 := Int64.le_toInt y
  have hy2 := Int64.toInt_lt y
  rw [Int64.toInt_sub, Int64.toInt_mul, Int64.toInt_div]
  rw [Int.bmod_mul_bmod, Int.sub_bmod_bmod]
  have e : x.toInt - x.toInt.tdiv y.toInt * y.toInt = x.toInt.tmod y.toInt := by
    have := Int.mul_tdiv_add_tmod x.toInt y.toInt
    rw [Int.mul_comm] at this
    omega
  rw [e]
  have h1 : (x.toInt.tmod y.toInt).natAbs ≤ x.toInt.natAbs := by
    rw [Int.natAbs_tmod]
    exact Nat.mod_le _ _
  rcases Int.le_total 0 x.toInt with h | h
  · have h2 := Int.tmod_nonneg y.toInt h
    exact Int.bmod_eq_of_le (by omega) (by omega)
  · have h2 : x.toInt.tmod y.toInt ≤ 0 := by
      have h3 := Int.tmod_nonneg y.toInt (a := -x.toInt) (by omega)
      rw [Int.neg_tmod] at h3
      omega
    exact Int.bmod_eq_of_le (by omega) (by omega)
theorem b_tmod {a b : Int} (hb : b ≠ 0) : (0 ≤ a → 0 ≤ a.tmod b) ∧ (a ≤ 0 → a.tmod b ≤ 0) ∧ (a.tmod b < b ∨ a.tmod b < -b) ∧ (-b < a.tmod b ∨ b < a.tmod b) ∧ (0 < b → a.tmod b < b ∧ -b < a.tmod b) ∧ (b < 0 → a.tmod b < -b ∧ b < a.tmod b) := by
  have h0 : (a.tmod b).natAbs < b.natAbs := by
    rw [Int.natAbs_tmod]
    exact Nat.mod_lt _ (by omega)
  refine ⟨fun h => Int.tmod_nonneg b h, fun h => ?_, by omega, by omega, fun h => by omega, fun h => by omega⟩
  have h3 := Int.tmod_nonneg b (a := -a) (by omega)
  rw [Int.neg_tmod] at h3
  omega
section BNUM3
variable {v : List Int} {k : Nat} {B : a_B} {C : List b_T}
theorem b_newc (hk : v.length = k) (hB : g_B v B) (hC : bg_C v C) {lo hi z : Int} {lg : Bool} {c : b_T} {w : Int} (h1 : lo ≤ z) (h2 : z ≤ hi) (hc : ∀ t, (v ++ t)[k]? = some z → b_is (v ++ t) c w) (hw : 0 ≤ w) : bg_R v (k + 1, (k, lo, hi) :: B, c :: C, (lg, ([(k, 1)], 0))) lg z := by
  have hv : (v ++ [z])[k]? = some z := by
    subst hk
    simp
  refine ⟨[z], by simp [hk], ?_, ?_, rfl, b_is_var hv⟩
  · intro q hq
    rcases List.mem_cons.mp hq with rfl | hq
    · exact ⟨z, hv, h1, h2⟩
    · exact g_B_ext hB q hq
  · intro d hd
    rcases List.mem_cons.mp hd with rfl | hd
    · exact ⟨w, hc _ hv, hw⟩
    · exact bg_C_ext hC d hd
theorem b_lrem_ok (hk : v.length = k) (hB : g_B v B) (hC : bg_C v C) {x y : b_T} {a b : Int64} (hx : b_is v x a.toInt) (hy : b_is v y b.toInt) (hb : b.toInt ≠ 0) : bg_R v (b_lrem k B C x y) true (a - a / b * b).toInt := by
  have hin := g_in64 (a - a / b * b)
  rw [b_rem64] at hin ⊢
  obtain ⟨t1, t2, -, -, t3, t4⟩ := b_tmod (a := a.toInt) hb
  unfold b_lrem
  split
  rotate_left
  · exact b_top_ok hk hB hC hin
  rename_i p q hp hq
  have h1 := b_iv_ok hB hp hx
  have h2 := b_iv_ok hB hq hy
  split
  · have t3 := t3 (by omega)
    split
    · refine b_newc hk hB hC (by have := t1 (by omega); omega) (by omega) (w := b.toInt - 1 - a.toInt.tmod b.toInt) (fun t ht => ?_) (by omega)
      have h := b_is_ad (k := -1) (b_is_m1 (b_is_ext (t := t) hy)) (b_is_var ht)
      rw [show b.toInt - 1 + -1 * a.toInt.tmod b.toInt = b.toInt - 1 - a.toInt.tmod b.toInt by omega] at h
      exact h
    · split
      · refine b_newc hk hB hC (by omega) (by have := t2 (by omega); omega) (w := b.toInt - 1 + a.toInt.tmod b.toInt) (fun t ht => ?_) (by omega)
        have h := b_is_ad (k := 1) (b_is_m1 (b_is_ext (t := t) hy)) (b_is_var ht)
        rw [Int.one_mul] at h
        exact h
      · exact b_new_ok hk hB hC (by omega) (by omega)
  · split
    · have t4 := t4 (by omega)
      split
      · refine b_newc hk hB hC (by have := t1 (by omega); omega) (by omega) (w := -1 - b.toInt - a.toInt.tmod b.toInt) (fun t ht => ?_) (by omega)
        have h := b_is_ad (k := -1) (b_is_ad (k := -1) (b_is_c (-1)) (b_is_ext (t := t) hy)) (b_is_var ht)
        rw [show -1 + -1 * b.toInt + -1 * a.toInt.tmod b.toInt = -1 - b.toInt - a.toInt.tmod b.toInt by omega] at h
        exact h
      · split
        · refine b_newc hk hB hC (by omega) (by have := t2 (by omega); omega) (w := -1 - b.toInt + a.toInt.tmod b.toInt) (fun t ht => ?_) (by omega)
          have h := b_is_ad (k := 1) (b_is_ad (k := -1) (b_is_c (-1)) (b_is_ext (t := t) hy)) (b_is_var ht)
          rw [show -1 + -1 * b.toInt + 1 * a.toInt.tmod b.toInt = -1 - b.toInt + a.toInt.tmod b.toInt by omega] at h
          exact h
        · exact b_new_ok hk hB hC (by omega) (by omega)
    · exact b_top_ok hk hB hC hin
theorem b_xor_ok (hk : v.length = k) (hB : g_B v B) (hC : bg_C v C) {x y : b_T} {a b : Int32} (hx : b_is v x a.toInt) (hy : b_is v y b.toInt) : bg_R v (b_xor k B C x y) false (a ^^^ b).toInt := by
  unfold b_xor
  split
  · rename_i e
    rw [e] at hy
    have e1 : b.toInt = -1 := b_is_uniq hy (b_is_c (-1))
    have e2 : b = -1 := Int32.toInt_inj.mp (by rw [e1]; decide)
    have e3 : (a ^^^ b).toInt = -1 + -1 * a.toInt := by
      rw [e2, Int32.xor_comm, Int32.neg_one_xor, Int32.toInt_not]
      have h1 := Int32.le_toInt a
      have h2 := Int32.toInt_lt a
      have e4 : (-a.toInt - 1).bmod (2 ^ 32) = -a.toInt - 1 := by
        apply Int.bmod_eq_of_le <;> omega
      rw [e4]
      omega
    rw [e3]
    exact bg_R0 hk hB hC (b_is_ad (k := -1) (b_is_c (-1)) hx)
  · exact b_top_ok hk hB hC (g_in32 _)
theorem b_and_ok (hk : v.length = k) (hB : g_B v B) (hC : bg_C v C) {x y : b_T} {a b : Int32} (hx : b_is v x a.toInt) (hy : b_is v y b.toInt) : bg_R v (b_and k B C x y) false (a &&& b).toInt := by
  unfold b_and
  split
  rotate_left
  · exact b_and32_ok hk hB hC hx hy
  split
  rotate_left
  · exact b_and32_ok hk hB hC hx hy
  rename_i p q hp hq
  split
  rotate_left
  · exact b_and32_ok hk hB hC hx hy
  rename_i hc
  have h1 := b_iv_ok hB hp hx
  have h2 := b_iv_ok hB hq hy
  have g1 := g_and_l (x := a) (y := b) (by omega)
  have g2 := g_and_r (x := a) (y := b) (by omega)
  refine b_newc (z := (a &&& b).toInt) (lo := 0) (hi := a_mn p.2 q.2) hk hB hC g1.1 (a_mn_ge (by omega) (by omega)) (w := a.toInt - (a &&& b).toInt) (fun t ht => ?_) (by omega)
  have h := b_is_ad (k := -1) (b_is_ext (t := t) hx) (b_is_var ht)
  rw [show a.toInt + -1 * (a &&& b).toInt = a.toInt - (a &&& b).toInt by omega] at h
  exact h
end BNUM3

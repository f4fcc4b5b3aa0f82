/-- the rows of a code table against the bytes, one walk through them -/
def z_rows (all : ByteArray) : Nat → List UInt8 → List q_I → Bool
  | _, _, [] => true
  | cur, l, I :: C => decide (cur ≤ I.1) && (match l.drop (I.1 - cur) with
    | [] => false
    | b :: r => (match z_sw b.toNat with
      | true => decide (decode all I.1 = .ok (I.2.1, I.2.2.1))
      | false => decide (decode ⟨((b :: r).take 5).toArray⟩ 0 = .ok (I.2.1, I.2.2.1))) && z_rows all I.1 (b :: r) C)
theorem z_win {all : ByteArray} {n : Nat} {l : List UInt8} (h : all.data.toList.drop n = l) : z_In all ⟨(l.take 5).toArray⟩ n := by
  intro i hi
  have hi2 : i < (l.take 5).length := by
    simpa [ByteArray.size] using hi
  have hl : i < l.length := by
    rw [List.length_take] at hi2
    omega
  have hj : n + i < all.data.toList.length := by
    rw [← h, List.length_drop] at hl
    omega
  refine ⟨by have h9 := hj; rw [Array.length_toList] at h9; exact h9, ?_⟩
  show all.data[n + i]'(by simpa using hj) = ((l.take 5).toArray)[i]'(by simpa using hi2)
  have e1 : all.data[n + i]'(by simpa using hj) = all.data.toList[n + i]'hj := by simp
  have e2 : ((l.take 5).toArray)[i]'(by simpa using hi2) = l[i]'hl := by simp [List.getElem_take]
  rw [e1, e2]
  subst h
  simp [List.getElem_drop]
theorem z_rows_ok {all : ByteArray} : ∀ (C : List q_I) (cur : Nat) (l : List UInt8), all.data.toList.drop cur = l → z_rows all cur l C = true → ∀ I ∈ C, decode all I.1 = .ok (I.2.1, I.2.2.1)
  | [], _, _, _, _, I, hI => by cases hI
  | J :: C, cur, l, hl, h, I, hI => by
    simp only [z_rows, Bool.and_eq_true, decide_eq_true_eq] at h
    obtain ⟨hc, h⟩ := h
    have hd : all.data.toList.drop J.1 = l.drop (J.1 - cur) := by
      rw [← hl, List.drop_drop]
      congr 1
      omega
    split at h
    · cases h
    · rename_i b r hbr
      rw [hbr] at hd
      simp only [Bool.and_eq_true] at h
      obtain ⟨h1, h2⟩ := h
      have key : decode all J.1 = .ok (J.2.1, J.2.2.1) := by
        split at h1
        · exact of_decide_eq_true h1
        · rename_i hsw
          refine z_decode (z_win hd) (fun hi => ?_) (of_decide_eq_true h1)
          have : (ByteArray.mk ((b :: r).take 5).toArray)[0]'hi = b := by
            show (((b :: r).take 5).toArray)[0]'(by simp) = b
            simp
          rw [this]
          exact hsw
      rcases List.mem_cons.mp hI with rfl | hI
      · exact key
      · exact z_rows_ok C J.1 (b :: r) hd h2 I hI
def z_okC (G : q_G) (M : q_MI) : Bool := z_rows (q_mB M) 0 (q_mB M).data.toList (q_mC M) && (q_mC M).all (fun I => q_okI G (q_mY M).cls (q_mK M) I)
theorem z_okC_ok {G : q_G} {M : q_MI} (h : z_okC G M = true) : q_okC G M = true := by
  simp only [z_okC, Bool.and_eq_true] at h
  refine List.all_eq_true.mpr (fun I hI => ?_)
  simp only [Bool.and_eq_true, decide_eq_true_eq]
  exact ⟨z_rows_ok _ 0 _ (by simp) h.1 I hI, List.all_eq_true.mp h.2 I hI⟩

/-! decoding by a window of the bytes: what a reader takes out of a part, it takes out of the whole -/
def z_S (all w : ByteArray) (n : Nat) {α : Type} (r1 r2 : Decoder α) : Prop := ∀ (pos : Nat) (a : α) (q : Nat), r2.runAt w pos = .ok (a, q) → r1.runAt all (n + pos) = .ok (a, n + q)
theorem z_pure {all w : ByteArray} {n : Nat} {α : Type} (a : α) : z_S all w n (pure a) (pure a) := by
  intro pos x q h
  have h1 : (Except.ok (a, pos) : Except DecodeError (α × Nat)) = .ok (x, q) := h
  cases h1
  rfl
theorem z_bind {all w : ByteArray} {n : Nat} {α β : Type} {r1 r2 : Decoder α} {f1 f2 : α → Decoder β} (h : z_S all w n r1 r2) (hf : ∀ a, z_S all w n (f1 a) (f2 a)) : z_S all w n (r1 >>= f1) (r2 >>= f2) := by
  intro pos x q hh
  have e2 : (r2 >>= f2).runAt w pos = (r2.runAt w pos) >>= fun z => (f2 z.1).runAt w z.2 := rfl
  have e1 : (r1 >>= f1).runAt all (n + pos) = (r1.runAt all (n + pos)) >>= fun z => (f1 z.1).runAt all z.2 := rfl
  rw [e2] at hh
  rw [e1]
  cases hr : r2.runAt w pos with
  | error z => rw [hr] at hh; cases hh
  | ok z =>
    obtain ⟨a, p⟩ := z
    rw [hr] at hh
    rw [h pos a p hr]
    exact hf a p x q hh
theorem z_map {all w : ByteArray} {n : Nat} {α β : Type} {r1 r2 : Decoder α} {f : α → β} (h : z_S all w n r1 r2) : z_S all w n (f <$> r1) (f <$> r2) := by
  intro pos x q hh
  have e2 : (f <$> r2).runAt w pos = (r2.runAt w pos) >>= fun z => .ok (f z.1, z.2) := rfl
  have e1 : (f <$> r1).runAt all (n + pos) = (r1.runAt all (n + pos)) >>= fun z => .ok (f z.1, z.2) := rfl
  rw [e2] at hh
  rw [e1]
  cases hr : r2.runAt w pos with
  | error z => rw [hr] at hh; cases hh
  | ok z =>
    obtain ⟨a, p⟩ := z
    rw [hr] at hh
    rw [h pos a p hr]
    cases hh
    rfl
def z_In (all w : ByteArray) (n : Nat) : Prop := ∀ i, (hi : i < w.size) → ∃ hj : n + i < all.size, all[n + i] = w[i]
theorem z_u1at (w : ByteArray) (pos : Nat) : (Reader.u1 : Decoder Nat).runAt w pos = if h : pos < w.size then .ok (w[pos].toNat, pos + 1) else .error (HasTruncated.truncated pos) := by
  have e : (Reader.u1 : Decoder Nat).runAt w pos = (dite (pos < w.size) (fun h => (fun (_ : ByteArray) (_ : Nat) => (Except.ok (w[pos].toNat, pos + 1) : Except DecodeError (Nat × Nat)))) (fun _ => fun _ _ => .error (HasTruncated.truncated pos))) w pos := by
    by_cases hp : pos < w.size
    · rw [dif_pos hp]
      show (dite (pos < w.size) _ _ : Decoder Nat) w pos = _
      rw [dif_pos hp]
      rfl
    · rw [dif_neg hp]
      show (dite (pos < w.size) _ _ : Decoder Nat) w pos = _
      rw [dif_neg hp]
      rfl
  rw [e]
  split <;> rfl
theorem z_u1 {all w : ByteArray} {n : Nat} (h : z_In all w n) : z_S all w n (Reader.u1 : Decoder Nat) Reader.u1 := by
  intro pos x q hh
  rw [z_u1at] at hh
  rw [z_u1at]
  by_cases hp : pos < w.size
  · rw [dif_pos hp] at hh
    cases hh
    obtain ⟨hj, he⟩ := h pos hp
    rw [dif_pos hj, he]
    rfl
  · rw [dif_neg hp] at hh
    cases hh
theorem z_u2 {all w : ByteArray} {n : Nat} (h : z_In all w n) : z_S all w n (Reader.u2 : Decoder Nat) Reader.u2 := z_bind (z_u1 h) (fun a => z_bind (z_u1 h) (fun b => z_pure _))
theorem z_s1 {all w : ByteArray} {n : Nat} (h : z_In all w n) : z_S all w n (Reader.s1 : Decoder Int) Reader.s1 := z_map (z_u1 h)
theorem z_s2 {all w : ByteArray} {n : Nat} (h : z_In all w n) : z_S all w n (Reader.s2 : Decoder Int) Reader.s2 := z_map (z_u2 h)
theorem z_err {all w : ByteArray} {n : Nat} {α : Type} {r1 : Decoder α} (e1 : DecodeError) : z_S all w n r1 (fun _ _ => .error e1) := by
  intro pos x q hh
  cases hh
def z_sw (b : Nat) : Bool := b == 170 || b == 171 || b == 185 || b == 186 || b == 188 || b == 196 || b == 197 || b == 200 || b == 201
theorem z_bind0 {all w : ByteArray} {n : Nat} {β : Type} {f1 f2 : Nat → Decoder β} (h : z_In all w n) (hw : ∀ (hi : 0 < w.size), z_sw w[0].toNat = false) (hf : ∀ a, z_sw a = false → z_S all w n (f1 a) (f2 a)) {x : β} {q : Nat} (hh : ((Reader.u1 : Decoder Nat) >>= f2).runAt w 0 = .ok (x, q)) : ((Reader.u1 : Decoder Nat) >>= f1).runAt all n = .ok (x, n + q) := by
  have e2 : ((Reader.u1 : Decoder Nat) >>= f2).runAt w 0 = ((Reader.u1 : Decoder Nat).runAt w 0) >>= fun z => (f2 z.1).runAt w z.2 := rfl
  have e1 : ((Reader.u1 : Decoder Nat) >>= f1).runAt all (n + 0) = ((Reader.u1 : Decoder Nat).runAt all (n + 0)) >>= fun z => (f1 z.1).runAt all z.2 := rfl
  rw [e2] at hh
  show ((Reader.u1 : Decoder Nat) >>= f1).runAt all (n + 0) = _
  rw [e1]
  cases hr : (Reader.u1 : Decoder Nat).runAt w 0 with
  | error z => rw [hr] at hh; cases hh
  | ok z =>
    obtain ⟨a, p⟩ := z
    have ha : z_sw a = false := by
      rw [z_u1at] at hr
      by_cases hp : 0 < w.size
      · rw [dif_pos hp] at hr
        cases hr
        exact hw hp
      · rw [dif_neg hp] at hr
        cases hr
    rw [hr] at hh
    rw [z_u1 h 0 a p hr]
    exact hf a ha p x q hh
set_option maxHeartbeats 40000000 in
set_option maxRecDepth 100000 in
theorem z_instr {all w : ByteArray} {n pc : Nat} (h : z_In all w n) (hw : ∀ (hi : 0 < w.size), z_sw w[0].toNat = false) {a : Instr} {q : Nat} (hh : (Decoder.instr 0).runAt w 0 = .ok (a, q)) : (Decoder.instr pc).runAt all n = .ok (a, n + q) := by
  unfold Decoder.instr at hh ⊢
  refine z_bind0 h hw (fun op hop => ?_) hh
  split
  all_goals first
    | exact z_pure _
    | exact z_err _
    | exact z_bind (z_u1 h) (fun _ => z_pure _)
    | exact z_bind (z_u2 h) (fun _ => z_pure _)
    | exact z_bind (z_s1 h) (fun _ => z_pure _)
    | exact z_bind (z_s2 h) (fun _ => z_pure _)
    | exact z_bind (z_u1 h) (fun _ => z_bind (z_s1 h) (fun _ => z_pure _))
    | exact absurd hop (by decide)
theorem z_decode {all w : ByteArray} {n : Nat} (h : z_In all w n) (hw : ∀ (hi : 0 < w.size), z_sw w[0].toNat = false) {a : Instr} {q : Nat} (hh : decode w 0 = .ok (a, q)) : decode all n = .ok (a, q) := by
  have e2 : decode w 0 = (Decoder.instr 0).runAt w 0 >>= fun z => .ok (z.1, z.2 - 0) := rfl
  have e1 : decode all n = (Decoder.instr n).runAt all n >>= fun z => .ok (z.1, z.2 - n) := rfl
  rw [e2] at hh
  rw [e1]
  cases hr : (Decoder.instr 0).runAt w 0 with
  | error z => rw [hr] at hh; cases hh
  | ok z =>
    obtain ⟨b, p⟩ := z
    rw [hr] at hh
    rw [z_instr (pc := n) h hw hr]
    cases hh
    show (Except.ok (b, n + p - n) : Except DecodeError (Instr × Nat)) = .ok (b, p - 0)
    rw [Nat.add_sub_cancel_left, Nat.sub_zero]

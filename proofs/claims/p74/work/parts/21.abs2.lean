abbrev a_Q : Type := Nat × a_B × List a_V × List a_C
def a_hul (B : a_B) : List a_N → Int × Int
  | [] => (0, 0)
  | [x] => a_iv B x
  | x :: xs => (a_mn (a_iv B x).1 (a_hul B xs).1, a_mx (a_iv B x).2 (a_hul B xs).2)
def a_put (B : a_B) (c : (Int × Int) ⊕ List a_N ⊕ Unit ⊕ List (Option Nat)) (i : Int × Int) (v : a_N) : Option ((Int × Int) ⊕ List a_N ⊕ Unit ⊕ List (Option Nat)) := match c with
  | .inl q => some (.inl (a_mn q.1 (a_iv B v).1, a_mx q.2 (a_iv B v).2))
  | .inr (.inl vs) => if i.1 = i.2 then some (.inr (.inl (vs.set i.1.toNat v))) else some (.inl (a_mn (a_hul B vs).1 (a_iv B v).1, a_mx (a_hul B vs).2 (a_iv B v).2))
  | _ => none
def a_rd (k : Nat) (B : a_B) (c : (Int × Int) ⊕ List a_N ⊕ Unit ⊕ List (Option Nat)) (i : Int × Int) : Option (Nat × a_B × a_N) := match c with
  | .inl q => some (if q.1 = q.2 then (k, B, (false, none, q.1)) else a_new k B false q.1 q.2)
  | .inr (.inl vs) => if i.1 = i.2 then (match vs[i.1.toNat]? with | some v => some (k, B, v) | none => none) else some (a_new k B false (a_hul B vs).1 (a_hul B vs).2)
  | _ => none
def a_fit (ty : FieldType) (v : a_V) : Bool := match ty, v with
  | .int, .inl (false, _, _) => true
  | .long, .inl (true, _, _) => true
  | .object _, .inr (.inl _) => true
  | .array _, .inr (.inl _) => true
  | _, _ => false
def a_ref (k : Nat) (B : a_B) (x : a_N) (r : List a_V) (m : List a_C) : Int → List (Option Nat) → List a_Q
  | _, [] => []
  | j, o :: os => (match a_asm B .eq x (false, none, j) with | some B1 => [(k, B1, .inr (.inl o) :: r, m)] | none => []) ++ a_ref k B x r m (j + 1) os
def a_ac (v : List a_V) : Nat := (v.map a_cat).sum
def a_in (B : a_B) (x : a_N) (n : Nat) : Bool := decide (0 ≤ (a_iv B x).1 ∧ (a_iv B x).2 < (n : Int))
def a_cpy (k : Nat) (B : a_B) (r : List a_V) (m : List a_C) (j d : Nat) (sp dp w : Int × Int) : Option (List a_Q) := match m[j]?, m[d]? with
  | some (.inl (t0, n0, .inl q)), some (.inl (t1, n1, .inl p)) => if t0 = 0 ∧ t1 = 0 ∧ 0 ≤ sp.1 ∧ 0 ≤ dp.1 ∧ 0 ≤ w.1 ∧ sp.2 + w.2 ≤ (n0 : Int) ∧ dp.2 + w.2 ≤ (n1 : Int) then some [(k, B, r, m.set d (.inl (t1, n1, .inl (a_mn q.1 p.1, a_mx q.2 p.2))))] else none
  | some (.inl (t0, n0, .inr (.inr (.inl u)))), some (.inl (t1, n1, .inr (.inr (.inl _)))) => if t0 = 1 ∧ t1 = 1 ∧ 0 ≤ sp.1 ∧ 0 ≤ dp.1 ∧ 0 ≤ w.1 ∧ sp.2 + w.2 ≤ (n0 : Int) ∧ dp.2 + w.2 ≤ (n1 : Int) then some [(k, B, r, m.set d (.inl (t1, n1, .inr (.inr (.inl u)))))] else none
  | _, _ => none
def a_mem (G : q_G) (k : Nat) (B : a_B) (fr lo : Nat) (i : Instr) (st : List a_V) (m : List a_C) : Option (List a_Q) := match i with
  | .getfield n => (match st with | .inr (.inl (some a)) :: r => (match m[a]? with | some (.inr (ci, fs)) => if ci = n / 64 then (match fs[n % 64]? with | some v => some [(k, B, v :: r, m)] | none => none) else none | _ => none) | _ => none)
  | .putfield n => (match st with | v :: .inr (.inl (some a)) :: r => (match m[a]? with | some (.inr (ci, fs)) => if ci = n / 64 ∧ n % 64 < fs.length ∧ a_fit (q_gY G ci (n % 64)) v = true then some [(k, B, r, m.set a (.inr (ci, fs.set (n % 64) v)))] else none | _ => none) | _ => none)
  | .iaload => (match st with | .inl (false, x) :: .inr (.inl (some a)) :: r => (match m[a]? with | some (.inl (t, n, c)) => if t = 0 ∧ a_in B (false, x) n = true then (match a_rd k B c (a_iv B (false, x)) with | some z => some [(z.1, z.2.1, .inl z.2.2 :: r, m)] | none => none) else none | _ => none) | _ => none)
  | .baload => (match st with | .inl (false, x) :: .inr (.inl (some a)) :: r => (match m[a]? with | some (.inl (t, n, c)) => if (t = 2 ∨ t = 3) ∧ a_in B (false, x) n = true then (match a_rd k B c (a_iv B (false, x)) with | some z => some [(z.1, z.2.1, .inl z.2.2 :: r, m)] | none => none) else none | _ => none) | _ => none)
  | .laload => (match st with | .inl (false, x) :: .inr (.inl (some a)) :: r => (match m[a]? with | some (.inl (t, n, .inr (.inr (.inl _)))) => if t = 1 ∧ a_in B (false, x) n = true then (match a_top k B true with | z => some [(z.1, z.2.1, .inl z.2.2 :: r, m)]) else none | _ => none) | _ => none)
  | .aaload => (match st with | .inl (false, x) :: .inr (.inl (some a)) :: r => (match m[a]? with | some (.inl (t, n, .inr (.inr (.inr rs)))) => if 4 ≤ t ∧ t < (q_gA G).length ∧ a_in B (false, x) n = true ∧ rs.length = n then some (a_ref k B (false, x) r m 0 rs) else none | _ => none) | _ => none)
  | .iastore => (match st with | .inl (false, v) :: .inl (false, x) :: .inr (.inl (some a)) :: r => (match m[a]? with | some (.inl (t, n, c)) => if t = 0 ∧ a_in B (false, x) n = true then (match a_put B c (a_iv B (false, x)) (false, v) with | some c1 => some [(k, B, r, m.set a (.inl (t, n, c1)))] | none => none) else none | _ => none) | _ => none)
  | .bastore => (match st with | .inl (false, _) :: .inl (false, x) :: .inr (.inl (some a)) :: r => (match m[a]? with | some (.inl (t, n, .inl q)) => if a_in B (false, x) n = true then (if t = 2 then some [(k, B, r, m.set a (.inl (t, n, .inl (a_mn q.1 (-128), a_mx q.2 127))))] else if t = 3 then some [(k, B, r, m.set a (.inl (t, n, .inl (a_mn q.1 0, a_mx q.2 1))))] else none) else none | _ => none) | _ => none)
  | .lastore => (match st with | .inl (true, _) :: .inl (false, x) :: .inr (.inl (some a)) :: r => (match m[a]? with | some (.inl (t, n, .inr (.inr (.inl _)))) => if t = 1 ∧ a_in B (false, x) n = true then some [(k, B, r, m)] else none | _ => none) | _ => none)
  | .aastore => (match st with | .inr (.inl (some v)) :: .inl (false, x) :: .inr (.inl (some a)) :: r => (match m[a]?, m[v]? with | some (.inl (t, n, .inr (.inr (.inr rs)))), some (.inr (ci, _)) => if 4 ≤ t ∧ a_in B (false, x) n = true ∧ (a_iv B (false, x)).1 = (a_iv B (false, x)).2 ∧ ((q_gC G)[ci]?.map fun z => FieldType.object z.1) = (q_gA G)[t]? ∧ ((q_gA G)[t]?).isSome = true then some [(k, B, r, m.set a (.inl (t, n, .inr (.inr (.inr (rs.set (a_iv B (false, x)).1.toNat (some v)))))))] else none | _, _ => none) | _ => none)
  | .arraylength => (match st with | .inr (.inl (some a)) :: r => (match m[a]? with | some (.inl (t, n, _)) => if t < (q_gA G).length ∧ n < 2147483648 then some [(k, B, .inl (false, none, (n : Int)) :: r, m)] else none | _ => none) | _ => none)
  | .invokedynamic n => if n = 0 then (match st with | .inr (.inl (some _)) :: r => if 1 ≤ fr ∧ a_ac r + 12 ≤ lo then some [(k, B, r, m)] else none | _ => none)
      else if n = 1 then (match st with | .inl (false, w) :: .inl (false, dp) :: .inr (.inl (some d)) :: .inl (false, sp) :: .inr (.inl (some j)) :: r => if 1 ≤ fr ∧ a_ac r + 18 ≤ lo then a_cpy k B r m j d (a_iv B (false, sp)) (a_iv B (false, dp)) (a_iv B (false, w)) else none | _ => none)
      else none
  | _ => none
def a_dft (ty : FieldType) : Option a_V := match ty with
  | .int => some (.inl (false, none, 0))
  | .long => some (.inl (true, none, 0))
  | .object _ => some (.inr (.inl none))
  | .array _ => some (.inr (.inl none))
  | _ => none
def a_dfs (Y : Nat → FieldType) : Nat → Option (List a_V)
  | 0 => some []
  | n + 1 => match a_dfs Y n, a_dft (Y n) with
    | some l, some v => some (l ++ [v])
    | _, _ => none
def a_cel (G : q_G) (B : a_B) (i : Instr) (st : List a_V) (m : List a_C) : Option (List a_V × a_C) := match i with
  | .new ci => (match (q_gC G)[ci]? with | some (_, _, N) => (match a_dfs (q_gY G ci) N with | some l => some (.inr (.inl (some m.length)) :: st, .inr (ci, l)) | none => none) | none => none)
  | .newarray a => (match st with | .inl (false, w) :: r => if (a_iv B (false, w)).1 = (a_iv B (false, w)).2 ∧ 0 ≤ (a_iv B (false, w)).1 ∧ (a_iv B (false, w)).1 ≤ 60000000 ∧ q_tag a < 4 then some (.inr (.inl (some m.length)) :: r, .inl (q_tag a, (a_iv B (false, w)).1.toNat, if a = .long then .inr (.inr (.inl ())) else if a = .int ∧ (a_iv B (false, w)).1 ≤ 4 then .inr (.inl (List.replicate (a_iv B (false, w)).1.toNat (false, none, 0))) else .inl (0, 0))) else none | _ => none)
  | .anewarray t => (match st with | .inl (false, w) :: r => if (a_iv B (false, w)).1 = (a_iv B (false, w)).2 ∧ 0 ≤ (a_iv B (false, w)).1 ∧ (a_iv B (false, w)).1 ≤ 60000000 then some (.inr (.inl (some m.length)) :: r, .inl (t, (a_iv B (false, w)).1.toNat, .inr (.inr (.inr (List.replicate (a_iv B (false, w)).1.toNat none))))) else none | _ => none)
  | _ => none
def a_lk (i : Instr) (st : List a_V) : Option (List a_V) := match i with
  | .sipush n => some (.inl (false, none, (Int32.ofInt n).toInt) :: st)
  | .jsr_w n => some (.inl (true, none, (Int64.ofInt n).toInt) :: st)
  | _ => none
def a_sz (x : a_C) : Nat := match x with
  | .inl (_, n, _) => n
  | .inr (_, fs) => fs.length
def a_sl (m : List a_C) : Nat := (m.map a_sz).sum
def a_jmp (C : List q_I) (pc : Nat) : List q_I := match C with
  | [] => []
  | I :: C => match Nat.blt I.1 pc with
    | true => a_jmp C pc
    | false => I :: C
/-- where the code goes on: at once behind, or by a jump; the place must be met -/
def a_at (M : q_MI) (tl : List q_I) (pc : Nat) : Option (List q_I) := match tl with
  | I :: tl => if I.1 = pc then some (I :: tl) else (match a_jmp (q_mC M) pc with | J :: l => if J.1 = pc then some (J :: l) else none | [] => none)
  | [] => (match a_jmp (q_mC M) pc with | J :: l => if J.1 = pc then some (J :: l) else none | [] => none)
def a_rcv (G : q_G) (M : q_MI) (as : List a_V) (m : List a_C) : Bool := match q_mK M with
  | 1 => true
  | 0 => (match as with | .inr (.inl (some a)) :: _ => (match m[a]? with | some (.inr (ci, _)) => decide ((q_gC G)[ci]?.map (fun z => z.1) = some (q_mY M).cls) | _ => false) | _ => false)
  | _ => (match as with | .inr (.inl (some _)) :: _ => true | _ => false)
def a_lvs : Nat → List a_V → a_L
  | _, [] => []
  | i, v :: vs => (i, v) :: a_lvs (if a_cat v = 2 then i + 2 else i + 1) vs
def a_call (G : q_G) (M : q_MI) (k : Nat) (st : List a_V) (m : List a_C) : Option (q_MI × List a_V × List a_V) := match (q_gM G)[k]? with
  | none => none
  | some M1 => if q_na M1 ≤ st.length ∧ a_ac (st.drop (q_na M1)) ≤ 8 ∧ q_mF M1 + 1 ≤ q_mF M ∧ 8 + (q_mL M1 + 11) + q_mO M1 ≤ q_mO M ∧ a_ac (st.take (q_na M1)) ≤ q_mL M1 ∧ a_rcv G M1 (st.take (q_na M1)).reverse m = true
    then some (M1, (st.take (q_na M1)).reverse, st.drop (q_na M1)) else none
def a_ret (B : a_B) (M : q_MI) (i : Instr) (st : List a_V) : Option (List a_V) := match i with
  | .ireturn => (match st with | [.inl (false, x)] => (match q_mR M with | some .int => some [.inl (false, x)] | some .boolean => if 0 ≤ (a_iv B (false, x)).1 ∧ (a_iv B (false, x)).2 ≤ 1 then some [.inl (false, x)] else none | _ => none) | _ => none)
  | .lreturn => (match st with | [.inl (true, x)] => if q_mR M = some .long then some [.inl (true, x)] else none | _ => none)
  | .return_ => (match st with | [] => if q_mR M = none then some [] else none | _ => none)
  | _ => none
def a_eqn (x y : a_N) : Bool := decide (x.2.1 = y.2.1 ∧ x.2.2 = y.2.2)
def a_mmo (S : List (a_N × a_N)) (x : a_N) : Option a_N := match S with
  | [] => none
  | q :: S => match a_eqn q.1 x with
    | true => some q.2
    | false => a_mmo S x
/-- the script read: a number that was read before is the same; L is the variable 0 -/
def a_scr (k : Nat) (B : a_B) (S : List (a_N × a_N)) (i : Instr) (st : List a_V) : Option (Nat × a_B × List (a_N × a_N) × List a_V) := match i with
  | .iaload => (match st with | .inl (false, x) :: .inr (.inr ()) :: r => (match a_mmo S (false, x) with
      | some v => some (k, B, S, .inl v :: r)
      | none => if 0 ≤ (a_iv B (false, x)).1 ∧ (a_iv B (false, x)).2 < (a_iv B (true, some 0, 0)).1 then (match a_top k B false with | z => some (z.1, z.2.1, ((false, x), z.2.2) :: S, .inl z.2.2 :: r)) else none) | _ => none)
  | .arraylength => (match st with | .inr (.inr ()) :: r => some (k, B, S, .inl (false, some 0, 0) :: r) | _ => none)
  | _ => none
def a_nxt (M : q_MI) (tl : List q_I) (fs : List a_F) (S : List (a_N × a_N)) (m : List a_C) : List a_P → Option (List a_K)
  | [] => some []
  | p :: ps => match a_at M tl p.2.2.1, a_nxt M tl fs S m ps with
    | some c, some l => some ((p.1, p.2.1, S, (M, c, p.2.2.2.1, p.2.2.2.2) :: fs, m) :: l)
    | _, _ => none
def a_nxm (M : q_MI) (c : List q_I) (l : a_L) (fs : List a_F) (S : List (a_N × a_N)) (ps : List a_Q) : List a_K := ps.map (fun p => (p.1, p.2.1, S, (M, c, l, p.2.2.1) :: fs, p.2.2.2))
def a_step (G : q_G) (mx ml : Nat) (K : a_K) : Option (List a_K) := match K with
  | (_, _, _, [], _) => none
  | (_, _, _, (_, [], _, _) :: _, _) => none
  | (k, B, S, (M, (pc, _, len, i, _) :: tl, l, st) :: fs, m) => match q_grp i with
    | 0 => (match a_pure k B (q_mL M) pc len i l st with | some ps => a_nxt M tl fs S m ps | none => none)
    | 1 => (match a_at M tl (pc + len) with
        | some c => (match fs with
            | [] => (match a_scr k B S i st with | some (k1, B1, S1, st1) => some [(k1, B1, S1, [(M, c, l, st1)], m)] | none => none)
            | _ :: _ => (match a_mem G k B (q_mF M) (q_mO M) i st m with | some ps => some (a_nxm M c l fs S ps) | none => none))
        | none => none)
    | 2 => (match a_at M tl (pc + len), a_cel G B i st m with | some c, some (st1, x) => some [(k, B, S, (M, c, l, st1) :: fs, m ++ [x])] | _, _ => none)
    | 3 => (match q_cnum i with
        | some j => (match a_at M tl (pc + len), a_call G M j st m with
            | some c, some (M1, as, rest) => (match a_at M1 (q_mC M1) 0 with | some c1 => some [(k, B, S, (M1, c1, a_lvs 0 as, []) :: (M, c, l, rest) :: fs, m)] | none => none)
            | _, _ => none)
        | none => (match fs with
            | [] => (match i, st with | .ireturn, [.inl (false, x)] => if (a_iv B (false, x)).1 = 1 ∧ (a_iv B (false, x)).2 = 1 ∧ m.length ≤ mx ∧ a_sl m ≤ ml then some [] else none | _, _ => none)
            | (M2, c2, l2, st2) :: fs2 => (match a_ret B M i st with | some r => some [(k, B, S, (M2, c2, l2, r ++ st2) :: fs2, m)] | none => none)))
    | _ => (match a_at M tl (pc + len), a_lk i st with | some c, some st1 => some [(k, B, S, (M, c, l, st1) :: fs, m)] | _, _ => none)
/-- every path comes to the law's end with 1 -/
noncomputable def a_run (G : q_G) (mx ml : Nat) (n : Nat) : a_K → Bool := Nat.rec (motive := fun _ => a_K → Bool) (fun _ => false) (fun _ ih K => match a_step G mx ml K with
  | none => false
  | some [] => true
  | some [K1] => ih K1
  | some Ks => Ks.all ih) n

/-! THE CHECKER'S CONTROL: contracts, templates at loop heads, paths -/
abbrev b_F : Type := q_MI × List q_I × b_L × List b_V
abbrev b_S : Type := b_E × List b_F
abbrev b_A : Type := (Bool × Int × Int) ⊕ (Nat ⊕ Nat)
/-- an outcome: what is given back, the tokens then -/
abbrev b_U : Type := Option (Bool × Int × Int) × List b_Q
/-- a contract: the method, its arguments, outcomes, what it may write, the tokens that it needs -/
abbrev b_Con : Type := Nat × List b_A × List b_U × b_W × List b_Q
/-- a template: variables and what is known, locals, a measure -/
abbrev b_Te : Type := b_E × b_L × b_T
/-- a loop head: where, splits of locals, places that are read, templates -/
abbrev b_H : Type := Nat × List (Nat × Int) × List (Nat × Nat) × List b_Te
/-- rules proved by hand: tokens by writes, by pure steps; when a token holds by what is known; when a state can't be -/
abbrev b_Hk : Type := b_Sto × (Instr → List b_V → List b_V → List b_Q) × (b_E → Nat → List b_T → Bool) × (b_E → Bool) × (Nat → b_E → List b_V → List (List b_Q)) × b_Rdb
def b_isn (lg : Bool) (y : Value) (z : Int) : Prop := match lg with
  | false => ∃ w : Int32, y = .int w ∧ w.toInt = z
  | true => ∃ w : Int64, y = .long w ∧ w.toInt = z
/-- values that are as the arguments say; the numbers among them -/
def bc_args : List b_A → List Value → List Int → Prop
  | [], [], zs => zs = []
  | .inl (lg, lo, hi) :: as, y :: ys, z :: zs => b_isn lg y z ∧ lo ≤ z ∧ z ≤ hi ∧ bc_args as ys zs
  | .inr (.inl k) :: as, y :: ys, zs => y = .ref k ∧ bc_args as ys zs
  | .inr (.inr k) :: as, y :: ys, zs => y = .retAddr k ∧ bc_args as ys zs
  | _, _, _ => False
def bc_out (F : Nat → List Int → q_M → Prop) (zs : List Int) (m : q_M) (o : b_U) (r : Option Value) : Prop := match o.1, r with
  | none, none => ∀ t ∈ o.2, bg_Q F zs m t
  | some (lg, lo, hi), some y => ∃ z, b_isn lg y z ∧ lo ≤ z ∧ z ≤ hi ∧ ∀ t ∈ o.2, bg_Q F (zs ++ [z]) m t
  | _, _ => False
def bc_ok (G : q_G) (I : List b_I) (F : Nat → List Int → q_M → Prop) (c : b_Con) : Prop := ∀ M, (q_gM G)[c.1]? = some M → ∀ (ys : List Value) (zs : List Int) (m : q_M), bc_args c.2.1 ys zs → bi_M I m → (∀ t ∈ c.2.2.2.2, bg_Q F zs m t) →
  ∃ (n : Nat) (r : Option Value) (m1 : q_M), q_run G n M 0 (lv_args 0 ys) [] m = some (r, m1) ∧ bi_M I m1 ∧ q_same c.2.2.2.1 m m1 ∧ ∃ o ∈ c.2.2.1, bc_out F zs m1 o r
/-- what is known, with terms for the variables -/
def b_sbl (s : List b_T) : List (Nat × Int) → Option b_T
  | [] => some (b_c 0)
  | q :: l => match s[q.1]?, b_sbl s l with
    | some e, some r => some (b_ad r q.2 e)
    | _, _ => none
def b_sb (s : List b_T) (t : b_T) : Option b_T := match b_sbl s t.1 with
  | some r => some (r.1, r.2 + t.2)
  | none => none
def b_eqv (E : b_E) (a b : b_T) : Bool := decide (a = b) || (b_ent E.2.1 E.2.2.1 (b_ad a (-1) b) && b_ent E.2.1 E.2.2.1 (b_ad b (-1) a))
def b_drW (B : a_B) (mo : List b_O) (W : b_W) : List b_O := mo.filter (fun o => W.all (fun w => !(Nat.beq o.1 w.1 && b_ovl B o.2.1 w.2.1 w.2.2)))
def b_dtW (fp : Nat → b_W) (tk : List b_Q) (W : b_W) : List b_Q := tk.filter (fun t => W.all (fun w => b_apart (fp t.1) w.1 w.2.1 w.2.2))
def b_wrW (fp : Nat → b_W) (E : b_E) (W : b_W) : b_E := (E.1, E.2.1, E.2.2.1, b_drW E.2.1 E.2.2.2.1 W, b_dtW fp E.2.2.2.2 W)
/-- the arguments fit: the terms of the numbers -/
def b_fita (E : b_E) : List b_A → List b_V → Option (List b_T)
  | [], [] => some []
  | .inl (lg, lo, hi) :: as, .inl (lg1, e) :: xs => if lg = lg1 ∧ b_inb E e lo hi = true then (match b_fita E as xs with | some l => some (e :: l) | none => none) else none
  | .inr (.inl k) :: as, .inr (.inl j) :: xs => if k = j then b_fita E as xs else none
  | .inr (.inr k) :: as, .inr (.inr j) :: xs => if k = j then b_fita E as xs else none
  | _, _ => none
def b_eqvs (E : b_E) (s : List b_T) : List b_T → List b_T → Bool
  | [], [] => true
  | a :: as, b :: bs => (match b_sb s a with | some c => b_eqv E c b | none => false) && b_eqvs E s as bs
  | _, _ => false
def b_sbs (s : List b_T) : List b_T → Option (List b_T)
  | [] => some []
  | a :: as => match b_sb s a, b_sbs s as with
    | some b, some bs => some (b :: bs)
    | _, _ => none
/-- tokens asked for (over s) are there -/
def b_tks (hk : b_Hk) (E : b_E) (s : List b_T) (ts : List b_Q) : Bool := ts.all (fun t => E.2.2.2.2.any (fun u => Nat.beq t.1 u.1 && b_eqvs E s t.2 u.2) || (match b_sbs s t.2 with | some us => hk.2.2.1 E t.1 us | none => false))
def b_sbq (s : List b_T) : List b_Q → Option (List b_Q)
  | [] => some []
  | t :: ts => match b_sbs s t.2, b_sbq s ts with
    | some b, some bs => some ((t.1, b) :: bs)
    | _, _ => none
/-- the states behind a call, an outcome each -/
def b_outs (E : b_E) (s : List b_T) : List b_U → List b_V → Option (List b_X)
  | [], _ => some []
  | (none, ts) :: os, r => match b_sbq s ts, b_outs E s os r with
    | some q, some l => some (((E.1, E.2.1, E.2.2.1, E.2.2.2.1, q ++ E.2.2.2.2), r) :: l)
    | _, _ => none
  | (some (lg, lo, hi), ts) :: os, r => match b_new E.1 E.2.1 E.2.2.1 lg lo hi with
    | (k, B, C, v) => match b_sbq (s ++ [v.2]) ts, b_outs E s os r with
      | some q, some l => some (((k, B, C, E.2.2.2.1, q ++ E.2.2.2.2), .inl v :: r) :: l)
      | _, _ => none
def b_cw (W V : b_W) : Bool := V.all (fun w => b_inW W w.1 w.2.1 w.2.2)
/-- a call by the first contract that fits -/
def b_cons (hk : b_Hk) (fp : Nat → b_W) (W : b_W) (E : b_E) (k : Nat) (as rest : List b_V) : List b_Con → Option (List b_X)
  | [] => none
  | c :: cs => match Nat.beq c.1 k with
    | true => (match b_fita E c.2.1 as with
      | some s => if b_tks hk E s c.2.2.2.2 = true ∧ b_cw W c.2.2.2.1 = true then b_outs (b_wrW fp E c.2.2.2.1) s c.2.2.1 rest else b_cons hk fp W E k as rest cs
      | none => b_cons hk fp W E k as rest cs)
    | false => b_cons hk fp W E k as rest cs
/-- an argument cut at some numbers before the call: k, which (from the last), where -/
def b_cuts (x : b_T) : List Int → List (a_B × List b_T) → List (a_B × List b_T)
  | [], l => l
  | c :: cs, l => b_cuts x cs (l.flatMap (fun q => b_cmp q.1 q.2 .lt x (b_c c) ++ b_cmp q.1 q.2 .ge x (b_c c)))
def b_rcv (G : q_G) (I : List b_I) (M : q_MI) (as : List b_V) : Bool := match q_mK M with
  | 1 => true
  | 0 => (match as with | .inr (.inl a) :: _ => (match I[a]? with | some (.inr (ci, _)) => decide ((q_gC G)[ci]?.map (fun z => z.1) = some (q_mY M).cls) | _ => false) | _ => false)
  | _ => false
def b_lvs : Nat → List b_V → b_L
  | _, [] => []
  | i, v :: vs => (i, v) :: b_lvs (if b_cat v = 2 then i + 2 else i + 1) vs
def b_call (G : q_G) (I : List b_I) (M : q_MI) (k : Nat) (st : List b_V) : Option (q_MI × List b_V × List b_V) := match (q_gM G)[k]? with
  | none => none
  | some M1 => if q_na M1 ≤ st.length ∧ b_ac (st.drop (q_na M1)) ≤ 8 ∧ q_mF M1 + 1 ≤ q_mF M ∧ 8 + (q_mL M1 + 11) + q_mO M1 ≤ q_mO M ∧ b_ac (st.take (q_na M1)) ≤ q_mL M1 ∧ b_rcv G I M1 (st.take (q_na M1)).reverse = true
    then some (M1, (st.take (q_na M1)).reverse, st.drop (q_na M1)) else none
/-- what a method gives back: on the caller's stack -/
def b_ret (B : a_B) (M : q_MI) (i : Instr) (st : List b_V) : Option (List b_V) := match i with
  | .ireturn => (match st with | [.inl (false, x)] => (match q_mR M with | some .int => some [.inl (false, x)] | some .boolean => if b_within B x 0 1 = true then some [.inl (false, x)] else none | _ => none) | _ => none)
  | .lreturn => (match st with | [.inl (true, x)] => if q_mR M = some .long then some [.inl (true, x)] else none | _ => none)
  | .return_ => (match st with | [] => if q_mR M = none then some [] else none | _ => none)
  | _ => none
/-- a token of the outcome is there: its terms are numbers, or by what is given back (the variable nA) -/
def b_eqr (E : b_E) (nA : Nat) (x : Option b_T) : List b_T → List b_T → Bool
  | [], [] => true
  | a :: as, b :: bs => (match a.1, x with
    | [], _ => b_eqv E a b
    | [q], some y => Nat.beq q.1 nA && decide (q.2 = 1) && b_eqv E (y.1, y.2 + a.2) b
    | _, _ => false) && b_eqr E nA x as bs
  | _, _ => false
def b_sbr (nA : Nat) (x : Option b_T) : List b_T → Option (List b_T)
  | [] => some []
  | a :: as => match (match a.1, x with
      | [], _ => some a
      | [q], some y => if q.1 = nA ∧ q.2 = 1 then some (y.1, y.2 + a.2) else none
      | _, _ => none), b_sbr nA x as with
    | some b, some bs => some (b :: bs)
    | _, _ => none
def b_ctk (hk : b_Hk) (E : b_E) (nA : Nat) (x : Option b_T) (ts : List b_Q) : Bool := ts.all (fun t => E.2.2.2.2.any (fun u => Nat.beq t.1 u.1 && b_eqr E nA x t.2 u.2) || (match b_sbr nA x t.2 with | some us => hk.2.2.1 E t.1 us && us.all (fun e => (b_iv E.2.1 e).isSome) | none => false))
def b_fin (hk : b_Hk) (E0 : b_E) (os : Nat × List b_U) (r : List b_V) : Bool := hk.2.2.2.1 E0 || os.2.any (fun o => match o.1, r with
  | none, [] => b_ctk hk E0 os.1 none o.2
  | some (lg, lo, hi), [.inl (lg1, x)] => (match lg, lg1 with | true, true => true | false, false => true | _, _ => false) && b_inb E0 x lo hi && b_ctk hk E0 os.1 (some x) o.2
  | _, _ => false)
/-- a template's variables, read off the state -/
def b_dv (c : Int) (l : List (Nat × Int)) : List (Nat × Int) := match l with
  | [] => []
  | q :: l => (q.1, q.2 / c) :: b_dv c l
def b_sg1 (t w : b_T) : List (Nat × b_T) := match t.1 with
  | [q] => if q.2 = 1 then [(q.1, (w.1, w.2 - t.2))] else [(q.1, (b_dv q.2 w.1, (w.2 - t.2) / q.2))]
  | _ => []
def b_sgl (l : b_L) : b_L → List (Nat × b_T)
  | [] => []
  | (k, .inl (_, t)) :: tl => (match b_get l k with | some (.inl (_, w)) => b_sg1 t w | _ => []) ++ b_sgl l tl
  | _ :: tl => b_sgl l tl
def b_sgm (mo : List b_O) : List b_O → List (Nat × b_T)
  | [] => []
  | o :: tl => (match b_mo mo o.1 o.2.1 with | some w => b_sg1 o.2.2.2 w.2 | none => []) ++ b_sgm mo tl
def b_sgz : List b_T → List b_T → List (Nat × b_T)
  | t :: ts, w :: ws => b_sg1 t w ++ b_sgz ts ws
  | _, _ => []
def b_sgt (tk : List b_Q) : List b_Q → List (Nat × b_T)
  | [] => []
  | u :: us => (match tk.find? (fun w => Nat.beq w.1 u.1) with | some w => b_sgz u.2 w.2 | none => []) ++ b_sgt tk us
def b_asc (l : List (Nat × b_T)) (i : Nat) : b_T := match l with
  | [] => b_c 0
  | q :: l => match Nat.beq q.1 i with
    | true => q.2
    | false => b_asc l i
def b_mks (l : List (Nat × b_T)) : Nat → Nat → List b_T
  | _, 0 => []
  | i, n + 1 => b_asc l i :: b_mks l (i + 1) n
def b_okl (E : b_E) (s : List b_T) (l : b_L) : b_L → Bool
  | [] => true
  | (k, x) :: tl => (match x, b_get l k with
    | .inl (lg, t), some (.inl (lg1, w)) => (match lg, lg1 with | true, true => true | false, false => true | _, _ => false) && (match b_sb s t with | some c => b_eqv E c w | none => false)
    | .inr (.inl a), some (.inr (.inl b)) => Nat.beq a b
    | .inr (.inr a), some (.inr (.inr b)) => Nat.beq a b
    | _, _ => false) && b_okl E s l tl
def b_okm (E : b_E) (s : List b_T) : List b_O → Bool
  | [] => true
  | o :: tl => (match o.2.1.1, b_mo E.2.2.2.1 o.1 o.2.1 with
    | [], some w => (match o.2.2.1, w.1 with | true, true => true | false, false => true | _, _ => false) && (match b_sb s o.2.2.2 with | some c => b_eqv E c w.2 | none => false)
    | _, _ => false) && b_okm E s tl
def b_fits (hk : b_Hk) (E : b_E) (l : b_L) (mu0 : Option b_T) (T : b_Te) : Bool :=
  let s := b_mks (b_sgl l T.2.1 ++ (b_sgm E.2.2.2.1 T.1.2.2.2.1 ++ b_sgt E.2.2.2.2 T.1.2.2.2.2)) 0 T.1.1
  s.all (fun t => (b_iv E.2.1 t).isSome) && b_okl E s l T.2.1 && b_okm E s T.1.2.2.2.1 && b_tks hk E s T.1.2.2.2.2
    && T.1.2.1.all (fun q => match s[q.1]? with | some t => b_inb E t q.2.1 q.2.2 | none => false)
    && T.1.2.2.1.all (fun c => match b_sb s c with | some t => b_ent E.2.1 E.2.2.1 t | none => false)
    && (match mu0 with
      | none => true
      | some u => match b_sb s T.2.2 with
        | some t => b_ent E.2.1 E.2.2.1 (b_ad (u.1, u.2 - 1) (-1) t)
        | none => false)
/-- locals cut at numbers -/
def b_tkl (tk : List b_Q) (id : Nat) : Option b_T := match tk with
  | [] => none
  | u :: tk => match Nat.beq u.1 id with
    | true => u.2.getLast?
    | false => b_tkl tk id
def b_spx (l : b_L) (tk : List b_Q) (k : Nat) : Option b_T := match b_get l k with
  | some (.inl (_, x)) => some x
  | some _ => none
  | none => b_tkl tk (k - 1000)
def b_spl (l : b_L) (tk : List b_Q) : List (Nat × Int) → List (a_B × List b_T) → List (a_B × List b_T)
  | [], qs => qs
  | (k, c) :: cs, qs => (match b_spx l tk k with | some x => b_spl l tk cs (qs.flatMap (fun q => b_cmp q.1 q.2 .lt x (b_c c) ++ b_cmp q.1 q.2 .ge x (b_c c))) | none => b_spl l tk cs qs)
/-- fields that a template speaks of are read -/
def b_tou (I : List b_I) : List (Nat × Nat) → b_E → b_E
  | [], E => E
  | (a, j) :: l, E => match I[a]? with
    | some (.inr (_, fs)) => (match fs[j]? with
      | some (.inl (lg, lo, hi)) => b_tou I l (b_rd E a (b_c (j : Int)) lg lo hi []).1
      | _ => b_tou I l E)
    | some (.inl (_, n, .inl (ex, lo, hi))) => if j < n then b_tou I l (b_rd E a (b_c (j : Int)) false (b_bnd E.2.1 ex lo hi (b_c (j : Int))).1 (b_bnd E.2.1 ex lo hi (b_c (j : Int))).2 []).1 else b_tou I l E
    | _ => b_tou I l E
def b_arr (hk : b_Hk) (I : List b_I) (E : b_E) (l : b_L) (mu0 : Option b_T) (h : b_H) : Bool := (b_spl l E.2.2.2.2 h.2.1 [(E.2.1, E.2.2.1)]).all (fun q => match b_tou I h.2.2.1 (E.1, q.1, q.2, E.2.2.2) with | E2 => hk.2.2.2.1 E2 || h.2.2.2.any (fun T => b_fits hk E2 l mu0 T))
def b_hd (hs : List b_H) (pc : Nat) : Option b_H := match hs with
  | [] => none
  | h :: hs => match Nat.beq h.1 pc with
    | true => some h
    | false => b_hd hs pc
def b_lk (i : Instr) (st : List b_V) : Option (List b_V) := match i with
  | .sipush n => some (.inl (false, b_c (Int32.ofInt n).toInt) :: st)
  | .jsr_w n => some (.inl (true, b_c (Int64.ofInt n).toInt) :: st)
  | .ldc n => some (.inr (.inr (n + 1)) :: st)
  | _ => none
def b_nxt (M : q_MI) (tl : List q_I) (fs : List b_F) (mo : List b_O) (tk : List b_V → List b_Q) : List b_P → Option (List b_S)
  | [] => some []
  | p :: ps => match a_at M tl p.2.2.2.1, b_nxt M tl fs mo tk ps with
    | some c, some l => some (((p.1, p.2.1, p.2.2.1, mo, tk p.2.2.2.2.2), (M, c, p.2.2.2.2.1, p.2.2.2.2.2) :: fs) :: l)
    | _, _ => none
/-- what a checking is about: methods to be followed into, contracts, cuts (method, which argument, where), what may be written, outcomes, loop heads, the measure at the start -/
abbrev b_Z : Type := List Nat × List b_Con × List (Nat × Nat × List Int) × b_W × (Nat × List b_U) × List b_H × Option b_T
def b_cutl (k : Nat) (as : List b_V) : List (Nat × Nat × List Int) → List (a_B × List b_T) → List (a_B × List b_T)
  | [], l => l
  | c :: cs, l => match Nat.beq c.1 k with
    | true => (match as[c.2.1]? with
      | some (.inl (_, x)) => b_cutl k as cs (b_cuts x c.2.2 l)
      | _ => b_cutl k as cs l)
    | false => b_cutl k as cs l
/-- the cases before a call: numbers cut, tokens that say one or the other -/
def b_cut2 (hk : b_Hk) (Z : b_Z) (E : b_E) (k : Nat) (as : List b_V) : List b_E :=
  (b_cutl k as Z.2.2.1 [(E.2.1, E.2.2.1)]).flatMap (fun q => match ((E.1, q.1, q.2, E.2.2.2) : b_E) with
    | E1 => (match hk.2.2.2.2.1 k E1 as with
      | [] => [E1]
      | al => al.map (fun ts => (E1.1, E1.2.1, E1.2.2.1, E1.2.2.2.1, ts ++ E1.2.2.2.2))))
def b_calls (hk : b_Hk) (fp : Nat → b_W) (Z : b_Z) (k : Nat) (as rest : List b_V) : List b_E → Option (List b_X)
  | [] => some []
  | E :: Es => match (if hk.2.2.2.1 E = true then some [] else b_cons hk fp Z.2.2.2.1 E k as rest Z.2.1), b_calls hk fp Z k as rest Es with
    | some a, some b => some (a ++ b)
    | _, _ => none
def b_sti (hk : b_Hk) (i : Instr) (E : b_E) : Bool := match i with
  | .iastore => hk.2.2.2.1 E
  | .iaload => hk.2.2.2.1 E
  | _ => false
def b_step (hk : b_Hk) (G : q_G) (I : List b_I) (fp : Nat → b_W) (Z : b_Z) (chk : Bool) (S : b_S) : Option (List b_S) := match S with
  | (_, []) => none
  | (_, (_, [], _, _) :: _) => none
  | (E, (M, (pc, _, len, i, _) :: tl, l, st) :: fs) => match (match chk, fs with | true, [] => b_hd Z.2.2.2.2.2.1 pc | _, _ => none) with
    | some h => (match st with | [] => if b_arr hk I E l Z.2.2.2.2.2.2 h = true then some [] else none | _ => none)
    | none => match q_grp i with
      | 0 => (match b_pure E.1 E.2.1 E.2.2.1 (q_mL M) pc len i l st with | some ps => b_nxt M tl fs E.2.2.2.1 (fun st1 => hk.2.1 i st st1 ++ E.2.2.2.2) ps | none => none)
      | 1 => if b_sti hk i E = true then some [] else (match a_at M tl (pc + len), b_mem G I Z.2.2.2.1 fp hk.1 hk.2.2.2.2.2 (q_mF M) (q_mO M) i E st with | some c, some xs => some (xs.map (fun x => (x.1, (M, c, l, x.2) :: fs))) | _, _ => none)
      | 2 => none
      | 3 => (match q_cnum i with
          | some k => (match a_at M tl (pc + len), b_call G I M k st with
              | some c, some (M1, as, rest) => if Z.1.any (fun j => Nat.beq j k) then (match a_at M1 (q_mC M1) 0 with | some c1 => some [(E, (M1, c1, b_lvs 0 as, []) :: (M, c, l, rest) :: fs)] | none => none)
                else (match b_calls hk fp Z k as rest (b_cut2 hk Z E k as) with | some xs => some (xs.map (fun x => (x.1, (M, c, l, x.2) :: fs))) | none => none)
              | _, _ => none)
          | none => (match b_ret E.2.1 M i st with
              | some r => (match fs with
                  | [] => if b_fin hk E Z.2.2.2.2.1 r = true then some [] else none
                  | (M2, c2, l2, st2) :: fs2 => some [(E, (M2, c2, l2, r ++ st2) :: fs2)])
              | none => none))
      | _ => (match a_at M tl (pc + len), b_lk i st with | some c, some st1 => some [(E, (M, c, l, st1) :: fs)] | _, _ => none)
noncomputable def b_run (hk : b_Hk) (G : q_G) (I : List b_I) (fp : Nat → b_W) (Z : b_Z) (n : Nat) : b_S → Bool := Nat.rec (motive := fun _ => b_S → Bool) (fun _ => false) (fun _ ih S => match b_step hk G I fp Z true S with
  | none => false
  | some [] => true
  | some [S1] => ih S1
  | some Ss => Ss.all ih) n
/-- from a start, one step without looking for a loop head -/
noncomputable def b_from (hk : b_Hk) (G : q_G) (I : List b_I) (fp : Nat → b_W) (Z : b_Z) (n : Nat) (S : b_S) : Bool := match b_step hk G I fp Z false S with
  | none => false
  | some Ss => Ss.all (b_run hk G I fp Z n)
def bg_Hk (I : List b_I) (F : Nat → List Int → q_M → Prop) (hk : b_Hk) : Prop := bg_Sto I F hk.1
  ∧ (∀ (v : List Int) (nL pc len : Nat) (i : Instr) (l : q_L) (st : List Value) (pc1 : Nat) (l1 : q_L) (st1 : List Value) (sa sa1 : List b_V) (m : q_M), bg_s v sa st → bg_s v sa1 st1 → q_pure nL pc len i l st = some (pc1, l1, st1) → ∀ t ∈ hk.2.1 i sa sa1, bg_Q F v m t)
  ∧ (∀ (v : List Int) (E : b_E) (m : q_M) (id : Nat) (us : List b_T) (zs : List Int), bg_E F v E m → bi_M I m → g_2 (b_is v) us zs → hk.2.2.1 E id us = true → F id zs m)
  ∧ (∀ (v : List Int) (E : b_E) (m : q_M), bg_E F v E m → bi_M I m → ¬ hk.2.2.2.1 E = true)
  ∧ (∀ (v : List Int) (k : Nat) (E : b_E) (as : List b_V) (m : q_M), bg_E F v E m → bi_M I m → hk.2.2.2.2.1 k E as ≠ [] → ∃ ts ∈ hk.2.2.2.2.1 k E as, ∀ t ∈ ts, bg_Q F v m t)
  ∧ bg_Rdb I F hk.2.2.2.2.2

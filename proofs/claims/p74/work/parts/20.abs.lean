/-! THE ABSTRACT MACHINE: numbers by bounds of variables, cells exact in shape; every path is followed -/
abbrev a_N : Type := Bool × Option Nat × Int
abbrev a_V : Type := a_N ⊕ (Option Nat ⊕ Unit)
abbrev a_B : Type := List (Nat × Int × Int)
abbrev a_L : Type := List (Nat × a_V)
abbrev a_A : Type := Nat × Nat × ((Int × Int) ⊕ List a_N ⊕ Unit ⊕ List (Option Nat))
abbrev a_C : Type := a_A ⊕ (Nat × List a_V)
abbrev a_F : Type := q_MI × List q_I × a_L × List a_V
abbrev a_K : Type := Nat × a_B × List (a_N × a_N) × List a_F × List a_C
def a_rng (lg : Bool) : Int × Int := match lg with
  | true => (-9223372036854775808, 9223372036854775807)
  | false => (-2147483648, 2147483647)
def a_bd (B : a_B) (i : Nat) : Option (Int × Int) := match B with
  | [] => none
  | q :: B => match Nat.beq q.1 i with
    | true => some q.2
    | false => a_bd B i
def a_mx (a b : Int) : Int := if a ≤ b then b else a
def a_mn (a b : Int) : Int := if a ≤ b then a else b
def a_iv (B : a_B) (v : a_N) : Int × Int := match v.2.1 with
  | none => (v.2.2, v.2.2)
  | some i => match a_bd B i with
    | none => a_rng v.1
    | some q => (a_mx (q.1 + v.2.2) (a_rng v.1).1, a_mn (q.2 + v.2.2) (a_rng v.1).2)
/-- a number that is new, between two -/
def a_new (k : Nat) (B : a_B) (lg : Bool) (lo hi : Int) : Nat × a_B × a_N := (k + 1, (k, lo, hi) :: B, (lg, some k, 0))
def a_top (k : Nat) (B : a_B) (lg : Bool) : Nat × a_B × a_N := a_new k B lg (a_rng lg).1 (a_rng lg).2
/-- bounds made narrower by what is known of a number -/
def a_rf (B : a_B) (x : a_N) (lo hi : Int) : a_B := match x.2.1 with
  | none => B
  | some i => match a_bd B i with
    | none => (i, lo - x.2.2, hi - x.2.2) :: B
    | some q => (i, a_mx q.1 (lo - x.2.2), a_mn q.2 (hi - x.2.2)) :: B
def a_opp (c : Jvm.ClassFile.Cond) : Jvm.ClassFile.Cond := match c with
  | .eq => .ne
  | .ne => .eq
  | .lt => .ge
  | .ge => .lt
  | .gt => .le
  | .le => .gt
/-- what x c y says of x, by y's bounds b and x's own a -/
def a_lim (c : Jvm.ClassFile.Cond) (a b : Int × Int) : Int × Int := match c with
  | .eq => b
  | .ne => (if b.1 = b.2 ∧ a.1 = b.1 then (a.1 + 1, a.2) else if b.1 = b.2 ∧ a.2 = b.1 then (a.1, a.2 - 1) else a)
  | .lt => (a.1, b.2 - 1)
  | .ge => (b.1, a.2)
  | .gt => (b.1 + 1, a.2)
  | .le => (a.1, b.2)
def a_swp (c : Jvm.ClassFile.Cond) : Jvm.ClassFile.Cond := match c with
  | .eq => .eq
  | .ne => .ne
  | .lt => .gt
  | .ge => .le
  | .gt => .lt
  | .le => .ge
/-- bounds under x c y; none: it can't be -/
def a_asm (B : a_B) (c : Jvm.ClassFile.Cond) (x y : a_N) : Option a_B :=
  let a := a_iv B x
  let b := a_iv B y
  let p := a_lim c a b
  let q := a_lim (a_swp c) b a
  if a_mx a.1 p.1 ≤ a_mn a.2 p.2 ∧ a_mx b.1 q.1 ≤ a_mn b.2 q.2 then some (a_rf (a_rf B x p.1 p.2) y q.1 q.2) else none
def a_bin32 (k : Nat) (B : a_B) (op : Int32 → Int32 → Int32) (iv : Int × Int → Int × Int → Int × Int) (x y : a_N) : Nat × a_B × a_N :=
  let a := a_iv B x
  let b := a_iv B y
  if a.1 = a.2 ∧ b.1 = b.2 then (k, B, (false, none, (op (Int32.ofInt a.1) (Int32.ofInt b.1)).toInt)) else a_new k B false (iv a b).1 (iv a b).2
def a_bin64 (k : Nat) (B : a_B) (op : Int64 → Int64 → Int64) (iv : Int × Int → Int × Int → Int × Int) (x y : a_N) : Nat × a_B × a_N :=
  let a := a_iv B x
  let b := a_iv B y
  if a.1 = a.2 ∧ b.1 = b.2 then (k, B, (true, none, (op (Int64.ofInt a.1) (Int64.ofInt b.1)).toInt)) else a_new k B true (iv a b).1 (iv a b).2
def a_all32 (_ _ : Int × Int) : Int × Int := (-2147483648, 2147483647)
def a_all64 (_ _ : Int × Int) : Int × Int := (-9223372036854775808, 9223372036854775807)
/-- sums within the type's bounds, else anything -/
def a_sum (lg : Bool) (a b : Int × Int) : Int × Int := if (a_rng lg).1 ≤ a.1 + b.1 ∧ a.2 + b.2 ≤ (a_rng lg).2 then (a.1 + b.1, a.2 + b.2) else a_rng lg
def a_dif (lg : Bool) (a b : Int × Int) : Int × Int := if (a_rng lg).1 ≤ a.1 - b.2 ∧ a.2 - b.1 ≤ (a_rng lg).2 then (a.1 - b.2, a.2 - b.1) else a_rng lg
def a_mul (a b : Int × Int) : Int × Int := if 0 ≤ a.1 ∧ 0 ≤ b.1 ∧ a.2 * b.2 ≤ 2147483647 then (a.1 * b.1, a.2 * b.2) else (-2147483648, 2147483647)
def a_msk (a b : Int × Int) : Int × Int := if 0 ≤ b.1 then (0, b.2) else if 0 ≤ a.1 then (0, a.2) else (-2147483648, 2147483647)
def a_shr (a _ : Int × Int) : Int × Int := if 0 ≤ a.1 then (0, a.2) else (a.1, a_mx a.2 (-1))
def a_shf (B : a_B) (lg : Bool) (x : a_N) (d : Int) : Option a_N := if (a_rng lg).1 ≤ (a_iv B x).1 + d ∧ (a_iv B x).2 + d ≤ (a_rng lg).2 then some (lg, x.2.1, x.2.2 + d) else none
def a_add (k : Nat) (B : a_B) (x y : a_N) : Nat × a_B × a_N := match y.2.1, a_shf B false x y.2.2 with
  | none, some z => (k, B, z)
  | _, _ => a_bin32 k B (fun x y => x + y) (a_sum false) x y
def a_sub (k : Nat) (B : a_B) (x y : a_N) : Nat × a_B × a_N := match y.2.1, a_shf B false x (- y.2.2) with
  | none, some z => (k, B, z)
  | _, _ => a_bin32 k B (fun x y => x - y) (a_dif false) x y
abbrev a_P : Type := Nat × a_B × Nat × a_L × List a_V
def a_get (l : a_L) (k : Nat) : Option a_V := match l with
  | [] => none
  | q :: l => match Nat.beq q.1 k with
    | true => some q.2
    | false => a_get l k
def a_cat (v : a_V) : Nat := match v with
  | .inl (true, _, _) => 2
  | _ => 1
def a_s1 (l : a_L) (i : Nat) (v : a_V) : a_L := (i, v) :: l.filter (fun q => !(q.1 == i) && !(q.1 + 1 == i && a_cat q.2 == 2))
def a_s2 (l : a_L) (i : Nat) (v : a_V) : a_L := (i, v) :: l.filter (fun q => !(q.1 == i) && (!(q.1 == i + 1) && !(q.1 + 1 == i && a_cat q.2 == 2)))
/-- one number off: its place -/
def a_num (z : Nat × a_B × a_N) (pc : Nat) (l : a_L) (r : List a_V) : Option (List a_P) := some [(z.1, z.2.1, pc, l, .inl z.2.2 :: r)]
def a_arm (o : Option a_B) (k pc : Nat) (l : a_L) (st : List a_V) : List a_P := match o with
  | some B => [(k, B, pc, l, st)]
  | none => []
/-- the paths of a comparison; unlike: less, or greater -/
def a_pth (k : Nat) (B : a_B) (c : Jvm.ClassFile.Cond) (x y : a_N) (pc : Nat) (l : a_L) (r : List a_V) : List a_P := match c with
  | .ne => a_arm (a_asm B .lt x y) k pc l r ++ a_arm (a_asm B .gt x y) k pc l r
  | c => a_arm (a_asm B c x y) k pc l r
def a_br (k : Nat) (B : a_B) (pc len : Nat) (off : Int) (c : Jvm.ClassFile.Cond) (x y : a_N) (l : a_L) (r : List a_V) : Option (List a_P) :=
  if 0 ≤ (pc : Int) + off then some (a_pth k B c x y ((pc : Int) + off).toNat l r ++ a_pth k B (a_opp c) x y (pc + len) l r) else none
def a_to (k : Nat) (o : Option a_B) (pc : Nat) (off : Int) (l : a_L) (st : List a_V) : Option (List a_P) := match o with
  | none => some []
  | some B => if 0 ≤ (pc : Int) + off then some [(k, B, ((pc : Int) + off).toNat, l, st)] else none
def a_cats2 (x : Option (List a_P)) (y : Option (List a_P)) : Option (List a_P) := match x, y with
  | some a, some b => some (a ++ b)
  | _, _ => none
def a_tab (k : Nat) (B : a_B) (pc : Nat) (x : a_N) (l : a_L) (r : List a_V) : Int → List Int → Option (List a_P)
  | _, [] => some []
  | j, off :: offs => a_cats2 (a_to k (a_asm B .eq x (false, none, j)) pc off l r) (a_tab k B pc x l r (j + 1) offs)
def a_lkp (k : Nat) (pc : Nat) (x : a_N) (l : a_L) (r : List a_V) (d : Int) : Option a_B → List (Int × Int) → Option (List a_P)
  | none, _ => some []
  | some B, [] => a_to k (some B) pc d l r
  | some B, p :: ps => a_cats2 (a_to k (a_asm B .eq x (false, none, p.1)) pc p.2 l r) (a_lkp k pc x l r d (a_asm B .ne x (false, none, p.1)) ps)
def a_pure (k : Nat) (B : a_B) (nL pc len : Nat) (i : Instr) (l : a_L) (st : List a_V) : Option (List a_P) := match i with
  | .iconst n => some [(k, B, pc + len, l, .inl (false, none, (Int32.ofInt n).toInt) :: st)]
  | .goto_w n => some [(k, B, pc + len, l, .inl (true, none, (Int64.ofInt n).toInt) :: st)]
  | .iload j => (match a_get l j with | some (.inl (false, o, c)) => some [(k, B, pc + len, l, .inl (false, o, c) :: st)] | _ => none)
  | .lload j => (match a_get l j with | some (.inl (true, o, c)) => some [(k, B, pc + len, l, .inl (true, o, c) :: st)] | _ => none)
  | .aload j => (match a_get l j with | some (.inr (.inl (some a))) => some [(k, B, pc + len, l, .inr (.inl (some a)) :: st)] | some (.inr (.inr u)) => some [(k, B, pc + len, l, .inr (.inr u) :: st)] | _ => none)
  | .istore j => (match st with | .inl (false, o, c) :: r => if j < nL then some [(k, B, pc + len, a_s1 l j (.inl (false, o, c)), r)] else none | _ => none)
  | .astore j => (match st with | .inr (.inl (some a)) :: r => if j < nL then some [(k, B, pc + len, a_s1 l j (.inr (.inl (some a))), r)] else none | _ => none)
  | .lstore j => (match st with | .inl (true, o, c) :: r => if j + 1 < nL then some [(k, B, pc + len, a_s2 l j (.inl (true, o, c)), r)] else none | _ => none)
  | .iinc j n => (match a_get l j with | some (.inl (false, o, c)) => if j < nL then (match a_add k B (false, o, c) (false, none, (Int32.ofInt n).toInt) with | (k1, B1, z) => some [(k1, B1, pc + len, a_s1 l j (.inl z), st)]) else none | _ => none)
  | .iadd => (match st with | .inl (false, y) :: .inl (false, x) :: r => a_num (a_add k B (false, x) (false, y)) (pc + len) l r | _ => none)
  | .isub => (match st with | .inl (false, y) :: .inl (false, x) :: r => a_num (a_sub k B (false, x) (false, y)) (pc + len) l r | _ => none)
  | .imul => (match st with | .inl (false, y) :: .inl (false, x) :: r => a_num (a_bin32 k B (fun x y => x * y) a_mul (false, x) (false, y)) (pc + len) l r | _ => none)
  | .iand => (match st with | .inl (false, y) :: .inl (false, x) :: r => a_num (a_bin32 k B (fun x y => x &&& y) a_msk (false, x) (false, y)) (pc + len) l r | _ => none)
  | .ior => (match st with | .inl (false, y) :: .inl (false, x) :: r => a_num (a_bin32 k B (fun x y => x ||| y) a_all32 (false, x) (false, y)) (pc + len) l r | _ => none)
  | .ixor => (match st with | .inl (false, y) :: .inl (false, x) :: r => a_num (a_bin32 k B (fun x y => x ^^^ y) a_all32 (false, x) (false, y)) (pc + len) l r | _ => none)
  | .ishl => (match st with | .inl (false, y) :: .inl (false, x) :: r => a_num (a_bin32 k B (fun x y => x <<< (y &&& 31)) a_all32 (false, x) (false, y)) (pc + len) l r | _ => none)
  | .ishr => (match st with | .inl (false, y) :: .inl (false, x) :: r => a_num (a_bin32 k B (fun x y => x >>> (y &&& 31)) a_shr (false, x) (false, y)) (pc + len) l r | _ => none)
  | .iushr => (match st with | .inl (false, y) :: .inl (false, x) :: r => a_num (a_bin32 k B (fun x y => (x.toUInt32 >>> (y.toUInt32 &&& Int32.toUInt32 31)).toInt32) a_all32 (false, x) (false, y)) (pc + len) l r | _ => none)
  | .idiv => (match st with | .inl (false, y) :: .inl (false, x) :: r => if 0 < (a_iv B (false, y)).1 ∨ (a_iv B (false, y)).2 < 0 then a_num (a_bin32 k B (fun x y => x / y) a_all32 (false, x) (false, y)) (pc + len) l r else none | _ => none)
  | .irem => (match st with | .inl (false, y) :: .inl (false, x) :: r => if 0 < (a_iv B (false, y)).1 ∨ (a_iv B (false, y)).2 < 0 then a_num (a_bin32 k B (fun x y => x - x / y * y) a_all32 (false, x) (false, y)) (pc + len) l r else none | _ => none)
  | .ladd => (match st with | .inl (true, y) :: .inl (true, x) :: r => a_num (a_bin64 k B (fun x y => x + y) (a_sum true) (true, x) (true, y)) (pc + len) l r | _ => none)
  | .lsub => (match st with | .inl (true, y) :: .inl (true, x) :: r => a_num (a_bin64 k B (fun x y => x - y) (a_dif true) (true, x) (true, y)) (pc + len) l r | _ => none)
  | .lmul => (match st with | .inl (true, y) :: .inl (true, x) :: r => a_num (a_bin64 k B (fun x y => x * y) a_all64 (true, x) (true, y)) (pc + len) l r | _ => none)
  | .land => (match st with | .inl (true, _) :: .inl (true, _) :: r => a_num (a_top k B true) (pc + len) l r | _ => none)
  | .lor => (match st with | .inl (true, _) :: .inl (true, _) :: r => a_num (a_top k B true) (pc + len) l r | _ => none)
  | .lshl => (match st with | .inl (false, _) :: .inl (true, _) :: r => a_num (a_top k B true) (pc + len) l r | _ => none)
  | .lshr => (match st with | .inl (false, _) :: .inl (true, _) :: r => a_num (a_top k B true) (pc + len) l r | _ => none)
  | .i2l => (match st with | .inl (false, x) :: r => some [(k, (match x.1 with | some _ => a_rf B (false, x) (a_iv B (false, x)).1 (a_iv B (false, x)).2 | none => B), pc + len, l, .inl (true, x) :: r)] | _ => none)
  | .l2i => (match st with | .inl (true, x) :: r => if -2147483648 ≤ (a_iv B (true, x)).1 ∧ (a_iv B (true, x)).2 ≤ 2147483647 then some [(k, B, pc + len, l, .inl (false, x) :: r)] else a_num (a_top k B false) (pc + len) l r | _ => none)
  | .i2b => (match st with | .inl (false, x) :: r => if -128 ≤ (a_iv B (false, x)).1 ∧ (a_iv B (false, x)).2 ≤ 127 then some [(k, B, pc + len, l, .inl (false, x) :: r)] else a_num (a_new k B false (-128) 127) (pc + len) l r | _ => none)
  | .i2s => (match st with | .inl (false, x) :: r => if -32768 ≤ (a_iv B (false, x)).1 ∧ (a_iv B (false, x)).2 ≤ 32767 then some [(k, B, pc + len, l, .inl (false, x) :: r)] else a_num (a_new k B false (-32768) 32767) (pc + len) l r | _ => none)
  | .ineg => (match st with | .inl (false, x) :: r => a_num (a_bin32 k B (fun x y => - y) a_all32 (false, none, 0) (false, x)) (pc + len) l r | _ => none)
  | .lcmp => (match st with | .inl (true, y) :: .inl (true, x) :: r => some (a_arm (a_asm B .lt (true, x) (true, y)) k (pc + len) l (.inl (false, none, -1) :: r) ++ a_arm (a_asm B .eq (true, x) (true, y)) k (pc + len) l (.inl (false, none, 0) :: r) ++ a_arm (a_asm B .gt (true, x) (true, y)) k (pc + len) l (.inl (false, none, 1) :: r)) | _ => none)
  | .dup => (match st with | v :: r => if a_cat v = 1 then some [(k, B, pc + len, l, v :: v :: r)] else none | _ => none)
  | .pop => (match st with | v :: r => if a_cat v = 1 then some [(k, B, pc + len, l, r)] else none | _ => none)
  | .dup2 => (match st with | a :: b :: r => if a_cat a = 1 ∧ a_cat b = 1 then some [(k, B, pc + len, l, a :: b :: a :: b :: r)] else none | _ => none)
  | .pop2 => (match st with | a :: r => if a_cat a = 2 then some [(k, B, pc + len, l, r)] else none | _ => none)
  | .ifCond c off => (match st with | .inl (false, x) :: r => a_br k B pc len off c (false, x) (false, none, 0) l r | _ => none)
  | .if_icmp c off => (match st with | .inl (false, y) :: .inl (false, x) :: r => a_br k B pc len off c (false, x) (false, y) l r | _ => none)
  | .goto off => a_to k (some B) pc off l st
  | .tableswitch d lo hi offs => (match st with | .inl (false, x) :: r => if (offs.size : Int) = hi - lo + 1 then a_cats2 (a_tab k B pc (false, x) l r lo offs.toList) (a_cats2 (a_to k (a_asm B .lt (false, x) (false, none, lo)) pc d l r) (a_to k (a_asm B .gt (false, x) (false, none, hi)) pc d l r)) else none | _ => none)
  | .lookupswitch d ps => (match st with | .inl (false, x) :: r => if (ps.toList.zip (ps.toList.drop 1)).all (fun (a, next) => a.1 < next.1) = true then a_lkp k pc (false, x) l r d (some B) ps.toList else none | _ => none)
  | _ => none

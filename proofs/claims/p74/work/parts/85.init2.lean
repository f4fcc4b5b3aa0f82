/-! both constructors, by the kernel -/
def t_c0 : q_E := .inr (9, (List.range 12).map (fun k => defaultValue (q_gY q_D 9 k)))
def t_r0 : Option (Option Value × q_M) := q_run q_D 2000 q_m0 0 (lv_args 0 [.ref 0]) [] [t_c0]
def t_m0 : q_M := match t_r0 with
  | some (_, m) => m
  | none => []
def t_is (r : Option (Option Value × q_M)) (n : Nat) : Bool := match r with
  | some (none, m) => Nat.beq m.length n
  | _ => false
theorem t_is_ok {r : Option (Option Value × q_M)} {n : Nat} (h : t_is r n = true) : ∃ m : q_M, r = some (none, m) ∧ m.length = n := by
  unfold t_is at h
  split at h
  · exact ⟨_, rfl, Nat.eq_of_beq_eq_true h⟩
  · cases h
set_option maxRecDepth 100000 in
theorem t_r0_is : t_is t_r0 93 = true := by decide +kernel
def t_c1 : q_E := .inr (10, (List.range 41).map (fun k => defaultValue (q_gY q_D 10 k)))
def t_r1 : Option (Option Value × q_M) := q_run q_D 2000 q_m216 0 (lv_args 0 [.ref 93]) [] (t_m0 ++ [t_c1])
def t_m1 : q_M := match t_r1 with
  | some (_, m) => m
  | none => []
set_option maxRecDepth 100000 in
theorem t_r1_is : t_is t_r1 kc_I.length = true := by decide +kernel
set_option maxRecDepth 100000 in
theorem t_ck : l_ckM kc_I t_m1 = true := by decide +kernel
set_option maxRecDepth 100000 in
theorem t_j0 : q_i t_m1 94 3 = 0 := by decide +kernel
set_option maxRecDepth 100000 in
theorem t_j2 : q_i t_m1 95 3 = 0 := by decide +kernel
set_option maxRecDepth 100000 in
theorem t_j3 : q_i t_m1 95 280 = 0 := by decide +kernel
set_option maxRecDepth 100000 in
theorem t_j4 : q_i t_m1 95 557 = 0 := by decide +kernel

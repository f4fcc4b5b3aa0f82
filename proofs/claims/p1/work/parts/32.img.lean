noncomputable def t_G : List a_K := match t_F[68]? with
  | some K => (a_fr q_D 600000 7302250 400 [K]).getD []
  | none => []
theorem t_G_some : (match t_F[68]? with | some K => (a_fr q_D 600000 7302250 400 [K]).isSome | none => false) = true := by decide +kernel
theorem t_G_len : t_G.length = 3 := by decide +kernel
noncomputable def t_gi (j : Nat) : Bool := match t_G[j]? with
  | some K => a_run q_D 600000 7302250 9000 K
  | none => false

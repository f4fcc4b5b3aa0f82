noncomputable def t_go (j : Nat) : Bool := match t_F[j]? with
  | some K => a_run q_D 600000 7302250 9000 K
  | none => false
theorem t_g0 : ([1, 3, 4, 5, 6, 7, 8, 9, 10, 11] : List Nat).all t_go = true := by decide +kernel
theorem t_g1 : ([12, 13, 14, 15, 16, 17, 18, 19, 20, 21] : List Nat).all t_go = true := by decide +kernel
theorem t_g2 : ([22, 23, 24, 25, 26, 27, 28, 29, 30, 31] : List Nat).all t_go = true := by decide +kernel
theorem t_g3 : ([32, 33, 34, 35, 36, 37, 38, 39, 40, 41] : List Nat).all t_go = true := by decide +kernel
theorem t_g4 : ([42, 43, 44, 45, 46, 47, 48, 49, 50, 51] : List Nat).all t_go = true := by decide +kernel
theorem t_g5 : ([52, 53, 54, 55, 56, 57, 58, 59, 60, 61] : List Nat).all t_go = true := by decide +kernel
theorem t_g6 : ([62, 63, 64, 65, 66, 67, 69, 71, 72, 73] : List Nat).all t_go = true := by decide +kernel
theorem t_h0 : t_go 0 = true := by decide +kernel
theorem t_h2 : t_go 2 = true := by decide +kernel
theorem t_h70 : t_go 70 = true := by decide +kernel

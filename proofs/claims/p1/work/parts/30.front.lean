def t_K0 : a_K := (1, [(0, 0, 6)], [], [(q_mLaw, q_cL, [(0, .inr (.inr ()))], [])], [])
noncomputable def t_F : List a_K := (a_fr q_D 600000 7302250 824 [t_K0]).getD []
def t_pcs (Ks : List a_K) : List Nat := Ks.map (fun K => match K.2.2.2.1 with
      | (_, (pc, _) :: _, _) :: fs => pc + 10000 * fs.length
      | _ => 5)
theorem t_F_some : (a_fr q_D 600000 7302250 824 [t_K0]).isSome = true := by decide +kernel
theorem t_F_len : t_F.length ≤ 74 := by decide +kernel
theorem t_F_len2 : 74 ≤ t_F.length := by decide +kernel

/-! behind 60.cons (printed by certs.py): the rows of kc_I; how the derived contracts are taken -/
set_option maxRecDepth 100000 in
theorem kc_Iok : r_Iok kc_I := by
  refine ⟨rfl, rfl, rfl, rfl, by decide +kernel, ?_⟩
  have h : kc_I.all (fun x => match x with | .inl (_, n, _) => decide (n ≤ 20000) | .inr (_, fs) => decide (fs.length ≤ 20000)) = true := by decide +kernel
  intro x hx
  have := List.all_eq_true.mp h x hx
  match x, this with
  | .inl (_, n, _), this => exact (of_decide_eq_true this : n ≤ 20000)
  | .inr (_, fs), this => exact (of_decide_eq_true this : fs.length ≤ 20000)
set_option maxRecDepth 100000 in
theorem kc_srt : ∀ M ∈ q_gM q_D, q_srt (q_mC M) = true := by
  have h : (q_gM q_D).all (fun M => q_srt (q_mC M)) = true := by decide +kernel
  exact fun M hM => List.all_eq_true.mp h M hM

set_option maxRecDepth 100000 in
theorem q_okc9 : q_ch9.all (fun M => q_okH q_D M && z_okC q_D M) = true := by decide +kernel
theorem q_okAll : ∀ M ∈ q_gM q_D, q_okM q_D M := by
  have key : ∀ (l : List q_MI), l.all (fun M => q_okH q_D M && z_okC q_D M) = true → ∀ M ∈ l, q_okM q_D M := fun l h M hM => by
    have h1 := List.all_eq_true.mp h M hM
    simp only [Bool.and_eq_true] at h1
    exact ⟨h1.1, z_okC_ok h1.2⟩
  intro M hM
  have hM : M ∈ q_ch0 ++ q_ch1 ++ q_ch2 ++ q_ch3 ++ q_ch4 ++ q_ch5 ++ q_ch6 ++ q_ch7 ++ q_ch8 ++ q_ch9 := hM
  simp only [List.mem_append] at hM
  rcases hM with (((((((((h | h) | h) | h) | h) | h) | h) | h) | h) | h)
  · exact key _ q_okc0 M h
  · exact key _ q_okc1 M h
  · exact key _ q_okc2 M h
  · exact key _ q_okc3 M h
  · exact key _ q_okc4 M h
  · exact key _ q_okc5 M h
  · exact key _ q_okc6 M h
  · exact key _ q_okc7 M h
  · exact key _ q_okc8 M h
  · exact key _ q_okc9 M h

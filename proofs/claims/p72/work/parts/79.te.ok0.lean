set_option maxRecDepth 100000 in
theorem q_okc0 : q_ch0.all (fun M => q_okH q_D M && z_okC q_D M) = true := by decide +kernel
set_option maxRecDepth 100000 in
theorem q_okc1 : q_ch1.all (fun M => q_okH q_D M && z_okC q_D M) = true := by decide +kernel
set_option maxRecDepth 100000 in
theorem q_okc2 : q_ch2.all (fun M => q_okH q_D M && z_okC q_D M) = true := by decide +kernel

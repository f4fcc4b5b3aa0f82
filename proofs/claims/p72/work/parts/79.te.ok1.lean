set_option maxRecDepth 100000 in
theorem q_okc3 : q_ch3.all (fun M => q_okH q_D M && z_okC q_D M) = true := by decide +kernel
set_option maxRecDepth 100000 in
theorem q_okc4 : q_ch4.all (fun M => q_okH q_D M && z_okC q_D M) = true := by decide +kernel
set_option maxRecDepth 100000 in
theorem q_okc5 : q_ch5.all (fun M => q_okH q_D M && z_okC q_D M) = true := by decide +kernel

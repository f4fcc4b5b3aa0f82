set_option maxRecDepth 100000 in
theorem q_okc6 : q_ch6.all (fun M => q_okH q_D M && z_okC q_D M) = true := by decide +kernel
set_option maxRecDepth 100000 in
theorem q_okc7 : q_ch7.all (fun M => q_okH q_D M && z_okC q_D M) = true := by decide +kernel
set_option maxRecDepth 100000 in
theorem q_okc8 : q_ch8.all (fun M => q_okH q_D M && z_okC q_D M) = true := by decide +kernel

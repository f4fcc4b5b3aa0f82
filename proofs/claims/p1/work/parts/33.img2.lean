theorem t_i2 : t_gi 2 = true := by decide +kernel

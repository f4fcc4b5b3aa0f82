theorem t_i0 : t_gi 0 = true := by decide +kernel

theorem t_i1 : t_gi 1 = true := by decide +kernel

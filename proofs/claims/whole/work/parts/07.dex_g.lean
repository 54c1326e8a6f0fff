set_option maxRecDepth 100000 in
theorem cl_6 : chkL 260 1020 rl_6 = true := by decide +kernel

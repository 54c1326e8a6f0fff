set_option maxRecDepth 100000 in
theorem cl_4 : chkL 260 680 rl_4 = true := by decide +kernel

set_option maxRecDepth 100000 in
theorem kl_1 : chkL 260 170 rl_1 = true := by decide +kernel

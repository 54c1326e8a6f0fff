set_option maxRecDepth 100000 in
theorem kl_0 : chkL 260 0 rl_0 = true := by decide +kernel

set_option maxRecDepth 100000 in
theorem kl_6 : chkL 260 1020 rl_6 = true := by decide +kernel

set_option maxRecDepth 100000 in
theorem kl_5 : chkL 260 850 rl_5 = true := by decide +kernel

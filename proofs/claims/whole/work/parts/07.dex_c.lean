set_option maxRecDepth 100000 in
theorem kl_2 : chkL 260 340 rl_2 = true := by decide +kernel

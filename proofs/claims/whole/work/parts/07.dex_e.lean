set_option maxRecDepth 100000 in
theorem kl_4 : chkL 260 680 rl_4 = true := by decide +kernel

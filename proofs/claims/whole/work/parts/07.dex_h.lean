set_option maxRecDepth 100000 in
theorem kl_7 : chkL 260 1190 rl_7 = true := by decide +kernel

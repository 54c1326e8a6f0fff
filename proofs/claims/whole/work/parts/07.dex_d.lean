set_option maxRecDepth 100000 in
theorem kl_3 : chkL 260 510 rl_3 = true := by decide +kernel

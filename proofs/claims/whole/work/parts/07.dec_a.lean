set_option maxRecDepth 100000 in
theorem ck_0 : chkM 0 = true := by decide +kernel
set_option maxRecDepth 100000 in
theorem ck_1 : chkM 1 = true := by decide +kernel
set_option maxRecDepth 100000 in
theorem ck_2 : chkM 2 = true := by decide +kernel
set_option maxRecDepth 100000 in
theorem ck_3 : chkM 3 = true := by decide +kernel
set_option maxRecDepth 100000 in
theorem ck_4 : chkM 4 = true := by decide +kernel
set_option maxRecDepth 100000 in
theorem ck_5 : chkM 5 = true := by decide +kernel
set_option maxRecDepth 100000 in
theorem ck_6 : chkM 6 = true := by decide +kernel
set_option maxRecDepth 100000 in
theorem ck_7 : chkM 7 = true := by decide +kernel
set_option maxRecDepth 100000 in
theorem ck_8 : chkM 8 = true := by decide +kernel
set_option maxRecDepth 100000 in
theorem ck_9 : chkM 9 = true := by decide +kernel
set_option maxRecDepth 100000 in
theorem ck_10 : chkM 10 = true := by decide +kernel
set_option maxRecDepth 100000 in
theorem ck_11 : chkM 11 = true := by decide +kernel
set_option maxRecDepth 100000 in
theorem ck_12 : chkM 12 = true := by decide +kernel
set_option maxRecDepth 100000 in
theorem ck_13 : chkM 13 = true := by decide +kernel
set_option maxRecDepth 100000 in
theorem ck_14 : chkM 14 = true := by decide +kernel
set_option maxRecDepth 100000 in
theorem ck_15 : chkM 15 = true := by decide +kernel
set_option maxRecDepth 100000 in
theorem ck_16 : chkM 16 = true := by decide +kernel
set_option maxRecDepth 100000 in
theorem ck_17 : chkM 17 = true := by decide +kernel
set_option maxRecDepth 100000 in
theorem ck_18 : chkM 18 = true := by decide +kernel
set_option maxRecDepth 100000 in
theorem ck_19 : chkM 19 = true := by decide +kernel
set_option maxRecDepth 100000 in
theorem ck_20 : chkM 20 = true := by decide +kernel
set_option maxRecDepth 100000 in
theorem ck_21 : chkM 21 = true := by decide +kernel
set_option maxRecDepth 100000 in
theorem ck_22 : chkM 22 = true := by decide +kernel
set_option maxRecDepth 100000 in
theorem ck_23 : chkM 23 = true := by decide +kernel
set_option maxRecDepth 100000 in
theorem ck_24 : chkM 24 = true := by decide +kernel
set_option maxRecDepth 100000 in
theorem ck_25 : chkM 25 = true := by decide +kernel
set_option maxRecDepth 100000 in
theorem ck_26 : chkM 26 = true := by decide +kernel
set_option maxRecDepth 100000 in
theorem ck_27 : chkM 27 = true := by decide +kernel
set_option maxRecDepth 100000 in
theorem ck_28 : chkM 28 = true := by decide +kernel
set_option maxRecDepth 100000 in
theorem ck_29 : chkM 29 = true := by decide +kernel
set_option maxRecDepth 100000 in
theorem ck_30 : chkM 30 = true := by decide +kernel
set_option maxRecDepth 100000 in
theorem ck_31 : chkM 31 = true := by decide +kernel
set_option maxRecDepth 100000 in
theorem ck_32 : chkM 32 = true := by decide +kernel
set_option maxRecDepth 100000 in
theorem ck_33 : chkM 33 = true := by decide +kernel
set_option maxRecDepth 100000 in
theorem ck_34 : chkM 34 = true := by decide +kernel
set_option maxRecDepth 100000 in
theorem ck_35 : chkM 35 = true := by decide +kernel
set_option maxRecDepth 100000 in
theorem ck_36 : chkM 36 = true := by decide +kernel
set_option maxRecDepth 100000 in
theorem ck_37 : chkM 37 = true := by decide +kernel
set_option maxRecDepth 100000 in
theorem ck_38 : chkM 38 = true := by decide +kernel

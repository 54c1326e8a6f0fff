set_option maxRecDepth 100000 in
theorem ck_250 : chkM 250 = true := by decide +kernel
set_option maxRecDepth 100000 in
theorem ck_251 : chkM 251 = true := by decide +kernel
set_option maxRecDepth 100000 in
theorem ck_252 : chkM 252 = true := by decide +kernel
set_option maxRecDepth 100000 in
theorem ck_253 : chkM 253 = true := by decide +kernel
set_option maxRecDepth 100000 in
theorem ck_254 : chkM 254 = true := by decide +kernel
set_option maxRecDepth 100000 in
theorem ck_255 : chkM 255 = true := by decide +kernel
set_option maxRecDepth 100000 in
theorem ck_256 : chkM 256 = true := by decide +kernel
set_option maxRecDepth 100000 in
theorem ck_257 : chkM 257 = true := by decide +kernel
set_option maxRecDepth 100000 in
theorem ck_258 : chkM 258 = true := by decide +kernel
set_option maxRecDepth 100000 in
theorem ck_259 : chkM 259 = true := by decide +kernel

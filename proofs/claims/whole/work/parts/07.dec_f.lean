set_option maxRecDepth 100000 in
theorem ck_221 : chkM 221 = true := by decide +kernel
set_option maxRecDepth 100000 in
theorem ck_222 : chkM 222 = true := by decide +kernel
set_option maxRecDepth 100000 in
theorem ck_223 : chkM 223 = true := by decide +kernel
set_option maxRecDepth 100000 in
theorem ck_224 : chkM 224 = true := by decide +kernel
set_option maxRecDepth 100000 in
theorem ck_225 : chkM 225 = true := by decide +kernel
set_option maxRecDepth 100000 in
theorem ck_226 : chkM 226 = true := by decide +kernel
set_option maxRecDepth 100000 in
theorem ck_227 : chkM 227 = true := by decide +kernel
set_option maxRecDepth 100000 in
theorem ck_228 : chkM 228 = true := by decide +kernel
set_option maxRecDepth 100000 in
theorem ck_229 : chkM 229 = true := by decide +kernel
set_option maxRecDepth 100000 in
theorem ck_230 : chkM 230 = true := by decide +kernel
set_option maxRecDepth 100000 in
theorem ck_231 : chkM 231 = true := by decide +kernel
set_option maxRecDepth 100000 in
theorem ck_232 : chkM 232 = true := by decide +kernel
set_option maxRecDepth 100000 in
theorem ck_233 : chkM 233 = true := by decide +kernel
set_option maxRecDepth 100000 in
theorem ck_234 : chkM 234 = true := by decide +kernel
set_option maxRecDepth 100000 in
theorem ck_235 : chkM 235 = true := by decide +kernel
set_option maxRecDepth 100000 in
theorem ck_236 : chkM 236 = true := by decide +kernel
set_option maxRecDepth 100000 in
theorem ck_237 : chkM 237 = true := by decide +kernel
set_option maxRecDepth 100000 in
theorem ck_238 : chkM 238 = true := by decide +kernel
set_option maxRecDepth 100000 in
theorem ck_239 : chkM 239 = true := by decide +kernel
set_option maxRecDepth 100000 in
theorem ck_240 : chkM 240 = true := by decide +kernel
set_option maxRecDepth 100000 in
theorem ck_241 : chkM 241 = true := by decide +kernel
set_option maxRecDepth 100000 in
theorem ck_242 : chkM 242 = true := by decide +kernel
set_option maxRecDepth 100000 in
theorem ck_243 : chkM 243 = true := by decide +kernel
set_option maxRecDepth 100000 in
theorem ck_244 : chkM 244 = true := by decide +kernel
set_option maxRecDepth 100000 in
theorem ck_245 : chkM 245 = true := by decide +kernel
set_option maxRecDepth 100000 in
theorem ck_246 : chkM 246 = true := by decide +kernel
set_option maxRecDepth 100000 in
theorem ck_247 : chkM 247 = true := by decide +kernel
set_option maxRecDepth 100000 in
theorem ck_248 : chkM 248 = true := by decide +kernel
set_option maxRecDepth 100000 in
theorem ck_249 : chkM 249 = true := by decide +kernel

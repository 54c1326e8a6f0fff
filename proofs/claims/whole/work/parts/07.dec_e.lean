set_option maxRecDepth 100000 in
theorem ck_194 : chkM 194 = true := by decide +kernel
set_option maxRecDepth 100000 in
theorem ck_195 : chkM 195 = true := by decide +kernel
set_option maxRecDepth 100000 in
theorem ck_196 : chkM 196 = true := by decide +kernel
set_option maxRecDepth 100000 in
theorem ck_197 : chkM 197 = true := by decide +kernel
set_option maxRecDepth 100000 in
theorem ck_198 : chkM 198 = true := by decide +kernel
set_option maxRecDepth 100000 in
theorem ck_199 : chkM 199 = true := by decide +kernel
set_option maxRecDepth 100000 in
theorem ck_200 : chkM 200 = true := by decide +kernel
set_option maxRecDepth 100000 in
theorem ck_201 : chkM 201 = true := by decide +kernel
set_option maxRecDepth 100000 in
theorem ck_202 : chkM 202 = true := by decide +kernel
set_option maxRecDepth 100000 in
theorem ck_203 : chkM 203 = true := by decide +kernel
set_option maxRecDepth 100000 in
theorem ck_204 : chkM 204 = true := by decide +kernel
set_option maxRecDepth 100000 in
theorem ck_205 : chkM 205 = true := by decide +kernel
set_option maxRecDepth 100000 in
theorem ck_206 : chkM 206 = true := by decide +kernel
set_option maxRecDepth 100000 in
theorem ck_207 : chkM 207 = true := by decide +kernel
set_option maxRecDepth 100000 in
theorem ck_208 : chkM 208 = true := by decide +kernel
set_option maxRecDepth 100000 in
theorem ck_209 : chkM 209 = true := by decide +kernel
set_option maxRecDepth 100000 in
theorem ck_210 : chkM 210 = true := by decide +kernel
set_option maxRecDepth 100000 in
theorem ck_211 : chkM 211 = true := by decide +kernel
set_option maxRecDepth 100000 in
theorem ck_212 : chkM 212 = true := by decide +kernel
set_option maxRecDepth 100000 in
theorem ck_213 : chkM 213 = true := by decide +kernel
set_option maxRecDepth 100000 in
theorem ck_214 : chkM 214 = true := by decide +kernel
set_option maxRecDepth 100000 in
theorem ck_215 : chkM 215 = true := by decide +kernel
set_option maxRecDepth 100000 in
theorem ck_216 : chkM 216 = true := by decide +kernel
set_option maxRecDepth 100000 in
theorem ck_217 : chkM 217 = true := by decide +kernel
set_option maxRecDepth 100000 in
theorem ck_218 : chkM 218 = true := by decide +kernel
set_option maxRecDepth 100000 in
theorem ck_219 : chkM 219 = true := by decide +kernel
set_option maxRecDepth 100000 in
theorem ck_220 : chkM 220 = true := by decide +kernel

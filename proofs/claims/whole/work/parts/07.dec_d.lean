set_option maxRecDepth 100000 in
theorem ck_142 : chkM 142 = true := by decide +kernel
set_option maxRecDepth 100000 in
theorem ck_143 : chkM 143 = true := by decide +kernel
set_option maxRecDepth 100000 in
theorem ck_144 : chkM 144 = true := by decide +kernel
set_option maxRecDepth 100000 in
theorem ck_145 : chkM 145 = true := by decide +kernel
set_option maxRecDepth 100000 in
theorem ck_146 : chkM 146 = true := by decide +kernel
set_option maxRecDepth 100000 in
theorem ck_147 : chkM 147 = true := by decide +kernel
set_option maxRecDepth 100000 in
theorem ck_148 : chkM 148 = true := by decide +kernel
set_option maxRecDepth 100000 in
theorem ck_149 : chkM 149 = true := by decide +kernel
set_option maxRecDepth 100000 in
theorem ck_150 : chkM 150 = true := by decide +kernel
set_option maxRecDepth 100000 in
theorem ck_151 : chkM 151 = true := by decide +kernel
set_option maxRecDepth 100000 in
theorem ck_152 : chkM 152 = true := by decide +kernel
set_option maxRecDepth 100000 in
theorem ck_153 : chkM 153 = true := by decide +kernel
set_option maxRecDepth 100000 in
theorem ck_154 : chkM 154 = true := by decide +kernel
set_option maxRecDepth 100000 in
theorem ck_155 : chkM 155 = true := by decide +kernel
set_option maxRecDepth 100000 in
theorem ck_156 : chkM 156 = true := by decide +kernel
set_option maxRecDepth 100000 in
theorem ck_157 : chkM 157 = true := by decide +kernel
set_option maxRecDepth 100000 in
theorem ck_158 : chkM 158 = true := by decide +kernel
set_option maxRecDepth 100000 in
theorem ck_159 : chkM 159 = true := by decide +kernel
set_option maxRecDepth 100000 in
theorem ck_160 : chkM 160 = true := by decide +kernel
set_option maxRecDepth 100000 in
theorem ck_161 : chkM 161 = true := by decide +kernel
set_option maxRecDepth 100000 in
theorem ck_162 : chkM 162 = true := by decide +kernel
set_option maxRecDepth 100000 in
theorem ck_163 : chkM 163 = true := by decide +kernel
set_option maxRecDepth 100000 in
theorem ck_164 : chkM 164 = true := by decide +kernel
set_option maxRecDepth 100000 in
theorem ck_165 : chkM 165 = true := by decide +kernel
set_option maxRecDepth 100000 in
theorem ck_166 : chkM 166 = true := by decide +kernel
set_option maxRecDepth 100000 in
theorem ck_167 : chkM 167 = true := by decide +kernel
set_option maxRecDepth 100000 in
theorem ck_168 : chkM 168 = true := by decide +kernel
set_option maxRecDepth 100000 in
theorem ck_169 : chkM 169 = true := by decide +kernel
set_option maxRecDepth 100000 in
theorem ck_170 : chkM 170 = true := by decide +kernel
set_option maxRecDepth 100000 in
theorem ck_171 : chkM 171 = true := by decide +kernel
set_option maxRecDepth 100000 in
theorem ck_172 : chkM 172 = true := by decide +kernel
set_option maxRecDepth 100000 in
theorem ck_173 : chkM 173 = true := by decide +kernel
set_option maxRecDepth 100000 in
theorem ck_174 : chkM 174 = true := by decide +kernel
set_option maxRecDepth 100000 in
theorem ck_175 : chkM 175 = true := by decide +kernel
set_option maxRecDepth 100000 in
theorem ck_176 : chkM 176 = true := by decide +kernel
set_option maxRecDepth 100000 in
theorem ck_177 : chkM 177 = true := by decide +kernel
set_option maxRecDepth 100000 in
theorem ck_178 : chkM 178 = true := by decide +kernel
set_option maxRecDepth 100000 in
theorem ck_179 : chkM 179 = true := by decide +kernel
set_option maxRecDepth 100000 in
theorem ck_180 : chkM 180 = true := by decide +kernel
set_option maxRecDepth 100000 in
theorem ck_181 : chkM 181 = true := by decide +kernel
set_option maxRecDepth 100000 in
theorem ck_182 : chkM 182 = true := by decide +kernel
set_option maxRecDepth 100000 in
theorem ck_183 : chkM 183 = true := by decide +kernel
set_option maxRecDepth 100000 in
theorem ck_184 : chkM 184 = true := by decide +kernel
set_option maxRecDepth 100000 in
theorem ck_185 : chkM 185 = true := by decide +kernel
set_option maxRecDepth 100000 in
theorem ck_186 : chkM 186 = true := by decide +kernel
set_option maxRecDepth 100000 in
theorem ck_187 : chkM 187 = true := by decide +kernel
set_option maxRecDepth 100000 in
theorem ck_188 : chkM 188 = true := by decide +kernel
set_option maxRecDepth 100000 in
theorem ck_189 : chkM 189 = true := by decide +kernel
set_option maxRecDepth 100000 in
theorem ck_190 : chkM 190 = true := by decide +kernel
set_option maxRecDepth 100000 in
theorem ck_191 : chkM 191 = true := by decide +kernel
set_option maxRecDepth 100000 in
theorem ck_192 : chkM 192 = true := by decide +kernel
set_option maxRecDepth 100000 in
theorem ck_193 : chkM 193 = true := by decide +kernel

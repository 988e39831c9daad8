/-! THE CODE LISTS, CHECKED AGAINST THE BYTES (9) -/
set_option maxRecDepth 100000 in
theorem ok_184 : cd_184.all (okI 184) = true := by decide +kernel
set_option maxRecDepth 100000 in
theorem ok_185 : cd_185.all (okI 185) = true := by decide +kernel
set_option maxRecDepth 100000 in
theorem ok_186 : cd_186.all (okI 186) = true := by decide +kernel
set_option maxRecDepth 100000 in
theorem ok_187 : cd_187.all (okI 187) = true := by decide +kernel
set_option maxRecDepth 100000 in
theorem ok_188 : cd_188.all (okI 188) = true := by decide +kernel
set_option maxRecDepth 100000 in
theorem ok_189 : cd_189.all (okI 189) = true := by decide +kernel
set_option maxRecDepth 100000 in
theorem ok_190 : cd_190.all (okI 190) = true := by decide +kernel
set_option maxRecDepth 100000 in
theorem ok_191 : cd_191.all (okI 191) = true := by decide +kernel
set_option maxRecDepth 100000 in
theorem ok_192 : cd_192.all (okI 192) = true := by decide +kernel
set_option maxRecDepth 100000 in
theorem ok_193 : cd_193.all (okI 193) = true := by decide +kernel
set_option maxRecDepth 100000 in
theorem ok_194 : cd_194.all (okI 194) = true := by decide +kernel
set_option maxRecDepth 100000 in
theorem ok_195 : cd_195.all (okI 195) = true := by decide +kernel
set_option maxRecDepth 100000 in
theorem ok_196 : cd_196.all (okI 196) = true := by decide +kernel
set_option maxRecDepth 100000 in
theorem ok_197 : cd_197.all (okI 197) = true := by decide +kernel
set_option maxRecDepth 100000 in
theorem ok_198 : cd_198.all (okI 198) = true := by decide +kernel
set_option maxRecDepth 100000 in
theorem ok_199 : cd_199.all (okI 199) = true := by decide +kernel
set_option maxRecDepth 100000 in
theorem ok_200 : cd_200.all (okI 200) = true := by decide +kernel
set_option maxRecDepth 100000 in
theorem ok_201 : cd_201.all (okI 201) = true := by decide +kernel

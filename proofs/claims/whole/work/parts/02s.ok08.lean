/-! THE CODE LISTS, CHECKED AGAINST THE BYTES (8) -/
set_option maxRecDepth 100000 in
theorem ok_159 : cd_159.all (okI 159) = true := by decide +kernel
set_option maxRecDepth 100000 in
theorem ok_160 : cd_160.all (okI 160) = true := by decide +kernel
set_option maxRecDepth 100000 in
theorem ok_161 : cd_161.all (okI 161) = true := by decide +kernel
set_option maxRecDepth 100000 in
theorem ok_162 : cd_162.all (okI 162) = true := by decide +kernel
set_option maxRecDepth 100000 in
theorem ok_163 : cd_163.all (okI 163) = true := by decide +kernel
set_option maxRecDepth 100000 in
theorem ok_164 : cd_164.all (okI 164) = true := by decide +kernel
set_option maxRecDepth 100000 in
theorem ok_165 : cd_165.all (okI 165) = true := by decide +kernel
set_option maxRecDepth 100000 in
theorem ok_166 : cd_166.all (okI 166) = true := by decide +kernel
set_option maxRecDepth 100000 in
theorem ok_167 : cd_167.all (okI 167) = true := by decide +kernel
set_option maxRecDepth 100000 in
theorem ok_168 : cd_168.all (okI 168) = true := by decide +kernel
set_option maxRecDepth 100000 in
theorem ok_169 : cd_169.all (okI 169) = true := by decide +kernel
set_option maxRecDepth 100000 in
theorem ok_170 : cd_170.all (okI 170) = true := by decide +kernel
set_option maxRecDepth 100000 in
theorem ok_171 : cd_171.all (okI 171) = true := by decide +kernel
set_option maxRecDepth 100000 in
theorem ok_172 : cd_172.all (okI 172) = true := by decide +kernel
set_option maxRecDepth 100000 in
theorem ok_173 : cd_173.all (okI 173) = true := by decide +kernel
set_option maxRecDepth 100000 in
theorem ok_174 : cd_174.all (okI 174) = true := by decide +kernel
set_option maxRecDepth 100000 in
theorem ok_175 : cd_175.all (okI 175) = true := by decide +kernel
set_option maxRecDepth 100000 in
theorem ok_176 : cd_176.all (okI 176) = true := by decide +kernel
set_option maxRecDepth 100000 in
theorem ok_177 : cd_177.all (okI 177) = true := by decide +kernel
set_option maxRecDepth 100000 in
theorem ok_178 : cd_178.all (okI 178) = true := by decide +kernel
set_option maxRecDepth 100000 in
theorem ok_179 : cd_179.all (okI 179) = true := by decide +kernel
set_option maxRecDepth 100000 in
theorem ok_180 : cd_180.all (okI 180) = true := by decide +kernel
set_option maxRecDepth 100000 in
theorem ok_181 : cd_181.all (okI 181) = true := by decide +kernel
set_option maxRecDepth 100000 in
theorem ok_182 : cd_182.all (okI 182) = true := by decide +kernel
set_option maxRecDepth 100000 in
theorem ok_183 : cd_183.all (okI 183) = true := by decide +kernel

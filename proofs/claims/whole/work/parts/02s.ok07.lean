/-! THE CODE LISTS, CHECKED AGAINST THE BYTES (7) -/
set_option maxRecDepth 100000 in
theorem ok_149 : cd_149.all (okI 149) = true := by decide +kernel
set_option maxRecDepth 100000 in
theorem ok_150 : cd_150.all (okI 150) = true := by decide +kernel
set_option maxRecDepth 100000 in
theorem ok_151 : cd_151.all (okI 151) = true := by decide +kernel
set_option maxRecDepth 100000 in
theorem ok_152 : cd_152.all (okI 152) = true := by decide +kernel
set_option maxRecDepth 100000 in
theorem ok_153 : cd_153.all (okI 153) = true := by decide +kernel
set_option maxRecDepth 100000 in
theorem ok_154 : cd_154.all (okI 154) = true := by decide +kernel
set_option maxRecDepth 100000 in
theorem ok_155 : cd_155.all (okI 155) = true := by decide +kernel
set_option maxRecDepth 100000 in
theorem ok_156 : cd_156.all (okI 156) = true := by decide +kernel
set_option maxRecDepth 100000 in
theorem ok_157 : cd_157.all (okI 157) = true := by decide +kernel
set_option maxRecDepth 100000 in
theorem ok_158 : cd_158.all (okI 158) = true := by decide +kernel

/-! THE CODE LISTS, CHECKED AGAINST THE BYTES (6) -/
set_option maxRecDepth 100000 in
theorem ok_136 : cd_136.all (okI 136) = true := by decide +kernel
set_option maxRecDepth 100000 in
theorem ok_137 : cd_137.all (okI 137) = true := by decide +kernel
set_option maxRecDepth 100000 in
theorem ok_138 : cd_138.all (okI 138) = true := by decide +kernel
set_option maxRecDepth 100000 in
theorem ok_139 : cd_139.all (okI 139) = true := by decide +kernel
set_option maxRecDepth 100000 in
theorem ok_140 : cd_140.all (okI 140) = true := by decide +kernel
set_option maxRecDepth 100000 in
theorem ok_141 : cd_141.all (okI 141) = true := by decide +kernel
set_option maxRecDepth 100000 in
theorem ok_142 : cd_142.all (okI 142) = true := by decide +kernel
set_option maxRecDepth 100000 in
theorem ok_143 : cd_143.all (okI 143) = true := by decide +kernel
set_option maxRecDepth 100000 in
theorem ok_144 : cd_144.all (okI 144) = true := by decide +kernel
set_option maxRecDepth 100000 in
theorem ok_145 : cd_145.all (okI 145) = true := by decide +kernel
set_option maxRecDepth 100000 in
theorem ok_146 : cd_146.all (okI 146) = true := by decide +kernel
set_option maxRecDepth 100000 in
theorem ok_147 : cd_147.all (okI 147) = true := by decide +kernel
set_option maxRecDepth 100000 in
theorem ok_148 : cd_148.all (okI 148) = true := by decide +kernel

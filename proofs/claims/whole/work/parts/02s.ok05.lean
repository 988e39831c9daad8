/-! THE CODE LISTS, CHECKED AGAINST THE BYTES (5) -/
set_option maxRecDepth 100000 in
theorem ok_118 : cd_118.all (okI 118) = true := by decide +kernel
set_option maxRecDepth 100000 in
theorem ok_119 : cd_119.all (okI 119) = true := by decide +kernel
set_option maxRecDepth 100000 in
theorem ok_120 : cd_120.all (okI 120) = true := by decide +kernel
set_option maxRecDepth 100000 in
theorem ok_121 : cd_121.all (okI 121) = true := by decide +kernel
set_option maxRecDepth 100000 in
theorem ok_122 : cd_122.all (okI 122) = true := by decide +kernel
set_option maxRecDepth 100000 in
theorem ok_123 : cd_123.all (okI 123) = true := by decide +kernel
set_option maxRecDepth 100000 in
theorem ok_124 : cd_124.all (okI 124) = true := by decide +kernel
set_option maxRecDepth 100000 in
theorem ok_125 : cd_125.all (okI 125) = true := by decide +kernel
set_option maxRecDepth 100000 in
theorem ok_126 : cd_126.all (okI 126) = true := by decide +kernel
set_option maxRecDepth 100000 in
theorem ok_127 : cd_127.all (okI 127) = true := by decide +kernel
set_option maxRecDepth 100000 in
theorem ok_128 : cd_128.all (okI 128) = true := by decide +kernel
set_option maxRecDepth 100000 in
theorem ok_129 : cd_129.all (okI 129) = true := by decide +kernel
set_option maxRecDepth 100000 in
theorem ok_130 : cd_130.all (okI 130) = true := by decide +kernel
set_option maxRecDepth 100000 in
theorem ok_131 : cd_131.all (okI 131) = true := by decide +kernel
set_option maxRecDepth 100000 in
theorem ok_132 : cd_132.all (okI 132) = true := by decide +kernel
set_option maxRecDepth 100000 in
theorem ok_133 : cd_133.all (okI 133) = true := by decide +kernel
set_option maxRecDepth 100000 in
theorem ok_134 : cd_134.all (okI 134) = true := by decide +kernel
set_option maxRecDepth 100000 in
theorem ok_135 : cd_135.all (okI 135) = true := by decide +kernel

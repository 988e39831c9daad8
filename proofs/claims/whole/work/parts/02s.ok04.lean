/-! THE CODE LISTS, CHECKED AGAINST THE BYTES (4) -/
set_option maxRecDepth 100000 in
theorem ok_101 : cd_101.all (okI 101) = true := by decide +kernel
set_option maxRecDepth 100000 in
theorem ok_102 : cd_102.all (okI 102) = true := by decide +kernel
set_option maxRecDepth 100000 in
theorem ok_103 : cd_103.all (okI 103) = true := by decide +kernel
set_option maxRecDepth 100000 in
theorem ok_104 : cd_104.all (okI 104) = true := by decide +kernel
set_option maxRecDepth 100000 in
theorem ok_105 : cd_105.all (okI 105) = true := by decide +kernel
set_option maxRecDepth 100000 in
theorem ok_106 : cd_106.all (okI 106) = true := by decide +kernel
set_option maxRecDepth 100000 in
theorem ok_107 : cd_107.all (okI 107) = true := by decide +kernel
set_option maxRecDepth 100000 in
theorem ok_108 : cd_108.all (okI 108) = true := by decide +kernel
set_option maxRecDepth 100000 in
theorem ok_109 : cd_109.all (okI 109) = true := by decide +kernel
set_option maxRecDepth 100000 in
theorem ok_110 : cd_110.all (okI 110) = true := by decide +kernel
set_option maxRecDepth 100000 in
theorem ok_111 : cd_111.all (okI 111) = true := by decide +kernel
set_option maxRecDepth 100000 in
theorem ok_112 : cd_112.all (okI 112) = true := by decide +kernel
set_option maxRecDepth 100000 in
theorem ok_113 : cd_113.all (okI 113) = true := by decide +kernel
set_option maxRecDepth 100000 in
theorem ok_114 : cd_114.all (okI 114) = true := by decide +kernel
set_option maxRecDepth 100000 in
theorem ok_115 : cd_115.all (okI 115) = true := by decide +kernel
set_option maxRecDepth 100000 in
theorem ok_116 : cd_116.all (okI 116) = true := by decide +kernel
set_option maxRecDepth 100000 in
theorem ok_117 : cd_117.all (okI 117) = true := by decide +kernel

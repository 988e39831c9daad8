/-! THE CODE LISTS, CHECKED AGAINST THE BYTES (3) -/
set_option maxRecDepth 100000 in
theorem ok_67 : cd_67.all (okI 67) = true := by decide +kernel
set_option maxRecDepth 100000 in
theorem ok_68 : cd_68.all (okI 68) = true := by decide +kernel
set_option maxRecDepth 100000 in
theorem ok_69 : cd_69.all (okI 69) = true := by decide +kernel
set_option maxRecDepth 100000 in
theorem ok_70 : cd_70.all (okI 70) = true := by decide +kernel
set_option maxRecDepth 100000 in
theorem ok_71 : cd_71.all (okI 71) = true := by decide +kernel
set_option maxRecDepth 100000 in
theorem ok_72 : cd_72.all (okI 72) = true := by decide +kernel
set_option maxRecDepth 100000 in
theorem ok_73 : cd_73.all (okI 73) = true := by decide +kernel
set_option maxRecDepth 100000 in
theorem ok_74 : cd_74.all (okI 74) = true := by decide +kernel
set_option maxRecDepth 100000 in
theorem ok_75 : cd_75.all (okI 75) = true := by decide +kernel
set_option maxRecDepth 100000 in
theorem ok_76 : cd_76.all (okI 76) = true := by decide +kernel
set_option maxRecDepth 100000 in
theorem ok_77 : cd_77.all (okI 77) = true := by decide +kernel
set_option maxRecDepth 100000 in
theorem ok_78 : cd_78.all (okI 78) = true := by decide +kernel
set_option maxRecDepth 100000 in
theorem ok_79 : cd_79.all (okI 79) = true := by decide +kernel
set_option maxRecDepth 100000 in
theorem ok_80 : cd_80.all (okI 80) = true := by decide +kernel
set_option maxRecDepth 100000 in
theorem ok_81 : cd_81.all (okI 81) = true := by decide +kernel
set_option maxRecDepth 100000 in
theorem ok_82 : cd_82.all (okI 82) = true := by decide +kernel
set_option maxRecDepth 100000 in
theorem ok_83 : cd_83.all (okI 83) = true := by decide +kernel
set_option maxRecDepth 100000 in
theorem ok_84 : cd_84.all (okI 84) = true := by decide +kernel
set_option maxRecDepth 100000 in
theorem ok_85 : cd_85.all (okI 85) = true := by decide +kernel
set_option maxRecDepth 100000 in
theorem ok_86 : cd_86.all (okI 86) = true := by decide +kernel
set_option maxRecDepth 100000 in
theorem ok_87 : cd_87.all (okI 87) = true := by decide +kernel
set_option maxRecDepth 100000 in
theorem ok_88 : cd_88.all (okI 88) = true := by decide +kernel
set_option maxRecDepth 100000 in
theorem ok_89 : cd_89.all (okI 89) = true := by decide +kernel
set_option maxRecDepth 100000 in
theorem ok_90 : cd_90.all (okI 90) = true := by decide +kernel
set_option maxRecDepth 100000 in
theorem ok_91 : cd_91.all (okI 91) = true := by decide +kernel
set_option maxRecDepth 100000 in
theorem ok_92 : cd_92.all (okI 92) = true := by decide +kernel
set_option maxRecDepth 100000 in
theorem ok_93 : cd_93.all (okI 93) = true := by decide +kernel
set_option maxRecDepth 100000 in
theorem ok_94 : cd_94.all (okI 94) = true := by decide +kernel
set_option maxRecDepth 100000 in
theorem ok_95 : cd_95.all (okI 95) = true := by decide +kernel
set_option maxRecDepth 100000 in
theorem ok_96 : cd_96.all (okI 96) = true := by decide +kernel
set_option maxRecDepth 100000 in
theorem ok_97 : cd_97.all (okI 97) = true := by decide +kernel
set_option maxRecDepth 100000 in
theorem ok_98 : cd_98.all (okI 98) = true := by decide +kernel
set_option maxRecDepth 100000 in
theorem ok_99 : cd_99.all (okI 99) = true := by decide +kernel
set_option maxRecDepth 100000 in
theorem ok_100 : cd_100.all (okI 100) = true := by decide +kernel

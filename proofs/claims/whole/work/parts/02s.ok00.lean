/-! THE CODE LISTS, CHECKED AGAINST THE BYTES (0) -/
set_option maxRecDepth 100000 in
theorem ok_0 : cd_0.all (okI 0) = true := by decide +kernel
set_option maxRecDepth 100000 in
theorem ok_1 : cd_1.all (okI 1) = true := by decide +kernel
set_option maxRecDepth 100000 in
theorem ok_2 : cd_2.all (okI 2) = true := by decide +kernel
set_option maxRecDepth 100000 in
theorem ok_3 : cd_3.all (okI 3) = true := by decide +kernel
set_option maxRecDepth 100000 in
theorem ok_4 : cd_4.all (okI 4) = true := by decide +kernel
set_option maxRecDepth 100000 in
theorem ok_5 : cd_5.all (okI 5) = true := by decide +kernel
set_option maxRecDepth 100000 in
theorem ok_6 : cd_6.all (okI 6) = true := by decide +kernel
set_option maxRecDepth 100000 in
theorem ok_7 : cd_7.all (okI 7) = true := by decide +kernel
set_option maxRecDepth 100000 in
theorem ok_8 : cd_8.all (okI 8) = true := by decide +kernel
set_option maxRecDepth 100000 in
theorem ok_9 : cd_9.all (okI 9) = true := by decide +kernel
set_option maxRecDepth 100000 in
theorem ok_10 : cd_10.all (okI 10) = true := by decide +kernel
set_option maxRecDepth 100000 in
theorem ok_11 : cd_11.all (okI 11) = true := by decide +kernel
set_option maxRecDepth 100000 in
theorem ok_12 : cd_12.all (okI 12) = true := by decide +kernel
set_option maxRecDepth 100000 in
theorem ok_13 : cd_13.all (okI 13) = true := by decide +kernel
set_option maxRecDepth 100000 in
theorem ok_14 : cd_14.all (okI 14) = true := by decide +kernel
set_option maxRecDepth 100000 in
theorem ok_15 : cd_15.all (okI 15) = true := by decide +kernel
set_option maxRecDepth 100000 in
theorem ok_16 : cd_16.all (okI 16) = true := by decide +kernel
set_option maxRecDepth 100000 in
theorem ok_17 : cd_17.all (okI 17) = true := by decide +kernel
set_option maxRecDepth 100000 in
theorem ok_18 : cd_18.all (okI 18) = true := by decide +kernel
set_option maxRecDepth 100000 in
theorem ok_19 : cd_19.all (okI 19) = true := by decide +kernel
set_option maxRecDepth 100000 in
theorem ok_20 : cd_20.all (okI 20) = true := by decide +kernel
set_option maxRecDepth 100000 in
theorem ok_21 : cd_21.all (okI 21) = true := by decide +kernel
set_option maxRecDepth 100000 in
theorem ok_22 : cd_22.all (okI 22) = true := by decide +kernel
set_option maxRecDepth 100000 in
theorem ok_23 : cd_23.all (okI 23) = true := by decide +kernel
set_option maxRecDepth 100000 in
theorem ok_24 : cd_24.all (okI 24) = true := by decide +kernel
set_option maxRecDepth 100000 in
theorem ok_25 : cd_25.all (okI 25) = true := by decide +kernel
set_option maxRecDepth 100000 in
theorem ok_26 : cd_26.all (okI 26) = true := by decide +kernel
set_option maxRecDepth 100000 in
theorem ok_27 : cd_27.all (okI 27) = true := by decide +kernel

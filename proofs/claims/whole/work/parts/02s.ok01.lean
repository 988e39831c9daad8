/-! THE CODE LISTS, CHECKED AGAINST THE BYTES (1) -/
set_option maxRecDepth 100000 in
theorem ok_28 : cd_28.all (okI 28) = true := by decide +kernel
set_option maxRecDepth 100000 in
theorem ok_29 : cd_29.all (okI 29) = true := by decide +kernel
set_option maxRecDepth 100000 in
theorem ok_30 : cd_30.all (okI 30) = true := by decide +kernel
set_option maxRecDepth 100000 in
theorem ok_31 : cd_31.all (okI 31) = true := by decide +kernel
set_option maxRecDepth 100000 in
theorem ok_32 : cd_32.all (okI 32) = true := by decide +kernel
set_option maxRecDepth 100000 in
theorem ok_33 : cd_33.all (okI 33) = true := by decide +kernel
set_option maxRecDepth 100000 in
theorem ok_34 : cd_34.all (okI 34) = true := by decide +kernel
set_option maxRecDepth 100000 in
theorem ok_35 : cd_35.all (okI 35) = true := by decide +kernel
set_option maxRecDepth 100000 in
theorem ok_36 : cd_36.all (okI 36) = true := by decide +kernel
set_option maxRecDepth 100000 in
theorem ok_37 : cd_37.all (okI 37) = true := by decide +kernel
set_option maxRecDepth 100000 in
theorem ok_38 : cd_38.all (okI 38) = true := by decide +kernel
set_option maxRecDepth 100000 in
theorem ok_39 : cd_39.all (okI 39) = true := by decide +kernel
set_option maxRecDepth 100000 in
theorem ok_40 : cd_40.all (okI 40) = true := by decide +kernel
set_option maxRecDepth 100000 in
theorem ok_41 : cd_41.all (okI 41) = true := by decide +kernel
set_option maxRecDepth 100000 in
theorem ok_42 : cd_42.all (okI 42) = true := by decide +kernel
set_option maxRecDepth 100000 in
theorem ok_43 : cd_43.all (okI 43) = true := by decide +kernel
set_option maxRecDepth 100000 in
theorem ok_44 : cd_44.all (okI 44) = true := by decide +kernel
set_option maxRecDepth 100000 in
theorem ok_45 : cd_45.all (okI 45) = true := by decide +kernel
set_option maxRecDepth 100000 in
theorem ok_46 : cd_46.all (okI 46) = true := by decide +kernel

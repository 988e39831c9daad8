/-! THE CODE LISTS, CHECKED AGAINST THE BYTES (2) -/
set_option maxRecDepth 100000 in
theorem ok_47 : cd_47.all (okI 47) = true := by decide +kernel
set_option maxRecDepth 100000 in
theorem ok_48 : cd_48.all (okI 48) = true := by decide +kernel
set_option maxRecDepth 100000 in
theorem ok_49 : cd_49.all (okI 49) = true := by decide +kernel
set_option maxRecDepth 100000 in
theorem ok_50 : cd_50.all (okI 50) = true := by decide +kernel
set_option maxRecDepth 100000 in
theorem ok_51 : cd_51.all (okI 51) = true := by decide +kernel
set_option maxRecDepth 100000 in
theorem ok_52 : cd_52.all (okI 52) = true := by decide +kernel
set_option maxRecDepth 100000 in
theorem ok_53 : cd_53.all (okI 53) = true := by decide +kernel
set_option maxRecDepth 100000 in
theorem ok_54 : cd_54.all (okI 54) = true := by decide +kernel
set_option maxRecDepth 100000 in
theorem ok_55 : cd_55.all (okI 55) = true := by decide +kernel
set_option maxRecDepth 100000 in
theorem ok_56 : cd_56.all (okI 56) = true := by decide +kernel
set_option maxRecDepth 100000 in
theorem ok_57 : cd_57.all (okI 57) = true := by decide +kernel
set_option maxRecDepth 100000 in
theorem ok_58 : cd_58.all (okI 58) = true := by decide +kernel
set_option maxRecDepth 100000 in
theorem ok_59 : cd_59.all (okI 59) = true := by decide +kernel
set_option maxRecDepth 100000 in
theorem ok_60 : cd_60.all (okI 60) = true := by decide +kernel
set_option maxRecDepth 100000 in
theorem ok_61 : cd_61.all (okI 61) = true := by decide +kernel
set_option maxRecDepth 100000 in
theorem ok_62 : cd_62.all (okI 62) = true := by decide +kernel
set_option maxRecDepth 100000 in
theorem ok_63 : cd_63.all (okI 63) = true := by decide +kernel
set_option maxRecDepth 100000 in
theorem ok_64 : cd_64.all (okI 64) = true := by decide +kernel
set_option maxRecDepth 100000 in
theorem ok_65 : cd_65.all (okI 65) = true := by decide +kernel
set_option maxRecDepth 100000 in
theorem ok_66 : cd_66.all (okI 66) = true := by decide +kernel

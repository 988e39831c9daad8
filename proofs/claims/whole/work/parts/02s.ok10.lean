/-! THE CODE LISTS, CHECKED AGAINST THE BYTES (10) -/
set_option maxRecDepth 100000 in
theorem ok_202 : cd_202.all (okI 202) = true := by decide +kernel

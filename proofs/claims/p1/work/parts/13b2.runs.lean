/-! What the law answers where its first place by 63 is one of these. -/
set_option maxRecDepth 100000 in
theorem zq_11 : zchk 11 zp_11 = true := by decide +kernel
set_option maxRecDepth 100000 in
theorem zq_12 : zchk 12 zp_12 = true := by decide +kernel
set_option maxRecDepth 100000 in
theorem zq_13 : zchk 13 zp_13 = true := by decide +kernel
set_option maxRecDepth 100000 in
theorem zq_14 : zchk 14 zp_14 = true := by decide +kernel
set_option maxRecDepth 100000 in
theorem zq_15 : zchk 15 zp_15 = true := by decide +kernel
set_option maxRecDepth 100000 in
theorem zq_16 : zchk 16 zp_16 = true := by decide +kernel
set_option maxRecDepth 100000 in
theorem zq_17 : zchk 17 zp_17 = true := by decide +kernel
set_option maxRecDepth 100000 in
theorem zq_d : ((List.range 27).all fun q => zchk (37 + q) zp_d) = true := by decide +kernel

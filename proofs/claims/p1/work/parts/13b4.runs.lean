/-! What the law answers where its first place by 63 is one of these. -/
set_option maxRecDepth 100000 in
theorem zq_19 : zchk 19 zp_19 = true := by decide +kernel
set_option maxRecDepth 100000 in
theorem zq_20 : zchk 20 zp_20 = true := by decide +kernel
set_option maxRecDepth 100000 in
theorem zq_21 : zchk 21 zp_21 = true := by decide +kernel
set_option maxRecDepth 100000 in
theorem zq_22 : zchk 22 zp_22 = true := by decide +kernel
set_option maxRecDepth 100000 in
theorem zq_23 : zchk 23 zp_23 = true := by decide +kernel
set_option maxRecDepth 100000 in
theorem zq_24 : zchk 24 zp_24 = true := by decide +kernel
set_option maxRecDepth 100000 in
theorem zq_25 : zchk 25 zp_25 = true := by decide +kernel
set_option maxRecDepth 100000 in
theorem zq_26 : zchk 26 zp_26 = true := by decide +kernel
set_option maxRecDepth 100000 in
theorem zq_27 : zchk 27 zp_27 = true := by decide +kernel
set_option maxRecDepth 100000 in
theorem zq_28 : zchk 28 zp_28 = true := by decide +kernel
set_option maxRecDepth 100000 in
theorem zq_29 : zchk 29 zp_29 = true := by decide +kernel
set_option maxRecDepth 100000 in
theorem zq_30 : zchk 30 zp_30 = true := by decide +kernel
set_option maxRecDepth 100000 in
theorem zq_31 : zchk 31 zp_31 = true := by decide +kernel
set_option maxRecDepth 100000 in
theorem zq_32 : zchk 32 zp_32 = true := by decide +kernel
set_option maxRecDepth 100000 in
theorem zq_33 : zchk 33 zp_33 = true := by decide +kernel
set_option maxRecDepth 100000 in
theorem zq_34 : zchk 34 zp_34 = true := by decide +kernel
set_option maxRecDepth 100000 in
theorem zq_35 : zchk 35 zp_35 = true := by decide +kernel
set_option maxRecDepth 100000 in
theorem zq_36 : zchk 36 zp_36 = true := by decide +kernel

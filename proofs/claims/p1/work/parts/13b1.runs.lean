/-! What the law answers where its first place by 63 is one of these. -/
set_option maxRecDepth 100000 in
theorem zq_0 : zchk 0 zp_0 = true := by decide +kernel
set_option maxRecDepth 100000 in
theorem zq_1 : zchk 1 zp_1 = true := by decide +kernel
set_option maxRecDepth 100000 in
theorem zq_2 : zchk 2 zp_2 = true := by decide +kernel
set_option maxRecDepth 100000 in
theorem zq_3 : zchk 3 zp_3 = true := by decide +kernel
set_option maxRecDepth 100000 in
theorem zq_4 : zchk 4 zp_4 = true := by decide +kernel
set_option maxRecDepth 100000 in
theorem zq_5 : zchk 5 zp_5 = true := by decide +kernel
set_option maxRecDepth 100000 in
theorem zq_6 : zchk 6 zp_6 = true := by decide +kernel
set_option maxRecDepth 100000 in
theorem zq_7 : zchk 7 zp_7 = true := by decide +kernel
set_option maxRecDepth 100000 in
theorem zq_8 : zchk 8 zp_8 = true := by decide +kernel
set_option maxRecDepth 100000 in
theorem zq_9 : zchk 9 zp_9 = true := by decide +kernel
set_option maxRecDepth 100000 in
theorem zlaw1_ok : (match zlaw1 with | some (true, _) => true | _ => false) = true := by decide +kernel
set_option maxRecDepth 100000 in
theorem zc_L : ((List.range 6).all fun L => zfinal (some L, [], none)) = true := by decide +kernel

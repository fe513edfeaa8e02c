/-! The law's loop looked through. -/
set_option maxRecDepth 100000 in
theorem yvL_30 : yLk (.ofNat 30) (.ofNat 30) = true := by decide +kernel
set_option maxRecDepth 100000 in
theorem yvL_31 : yLk (.ofNat 31) (.ofNat 31) = true := by decide +kernel
set_option maxRecDepth 100000 in
theorem yvL_32 : yLk (.ofNat 32) (.ofNat 32) = true := by decide +kernel
set_option maxRecDepth 100000 in
theorem yvL_33 : yLk (.ofNat 33) (.ofNat 33) = true := by decide +kernel
set_option maxRecDepth 100000 in
theorem yvL_34 : yLk (.ofNat 34) (.ofNat 34) = true := by decide +kernel

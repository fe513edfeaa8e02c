/-! The law's loop looked through. -/
set_option maxRecDepth 100000 in
theorem yvL_15 : yLk (.ofNat 15) (.ofNat 15) = true := by decide +kernel
set_option maxRecDepth 100000 in
theorem yvL_16 : yLk (.ofNat 16) (.ofNat 16) = true := by decide +kernel
set_option maxRecDepth 100000 in
theorem yvL_17 : yLk (.ofNat 17) (.ofNat 17) = true := by decide +kernel
set_option maxRecDepth 100000 in
theorem yvL_18 : yLk (.ofNat 18) (.ofNat 18) = true := by decide +kernel
set_option maxRecDepth 100000 in
theorem yvL_19 : yLk (.ofNat 19) (.ofNat 19) = true := by decide +kernel

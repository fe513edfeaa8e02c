/-! The law's loop looked through. -/
set_option maxRecDepth 100000 in
theorem yvL_35 : yLk (.ofNat 35) (.ofNat 35) = true := by decide +kernel
set_option maxRecDepth 100000 in
theorem yvL_36 : yLk (.ofNat 36) (.ofNat 36) = true := by decide +kernel
set_option maxRecDepth 100000 in
theorem yvL_37 : yLk (.ofNat 37) (.ofNat 63) = true := by decide +kernel

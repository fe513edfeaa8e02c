/-! The law's loop looked through. -/
set_option maxRecDepth 100000 in
theorem yvL_25 : yLk (.ofNat 25) (.ofNat 25) = true := by decide +kernel
set_option maxRecDepth 100000 in
theorem yvL_26 : yLk (.ofNat 26) (.ofNat 26) = true := by decide +kernel
set_option maxRecDepth 100000 in
theorem yvL_27 : yLk (.ofNat 27) (.ofNat 27) = true := by decide +kernel
set_option maxRecDepth 100000 in
theorem yvL_28 : yLk (.ofNat 28) (.ofNat 28) = true := by decide +kernel
set_option maxRecDepth 100000 in
theorem yvL_29 : yLk (.ofNat 29) (.ofNat 29) = true := by decide +kernel

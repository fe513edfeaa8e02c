/-! The law's loop looked through. -/
set_option maxRecDepth 100000 in
theorem yvL_10 : yLk (.ofNat 10) (.ofNat 10) = true := by decide +kernel
set_option maxRecDepth 100000 in
theorem yvL_11 : yLk (.ofNat 11) (.ofNat 11) = true := by decide +kernel
set_option maxRecDepth 100000 in
theorem yvL_12 : yLk (.ofNat 12) (.ofNat 12) = true := by decide +kernel
set_option maxRecDepth 100000 in
theorem yvL_13 : yLk (.ofNat 13) (.ofNat 13) = true := by decide +kernel
set_option maxRecDepth 100000 in
theorem yvL_14 : yLk (.ofNat 14) (.ofNat 14) = true := by decide +kernel

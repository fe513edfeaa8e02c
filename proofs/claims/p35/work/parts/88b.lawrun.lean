/-! The law's loop looked through. -/
set_option maxRecDepth 100000 in
theorem yvL_5 : yLk (.ofNat 5) (.ofNat 5) = true := by decide +kernel
set_option maxRecDepth 100000 in
theorem yvL_6 : yLk (.ofNat 6) (.ofNat 6) = true := by decide +kernel
set_option maxRecDepth 100000 in
theorem yvL_7 : yLk (.ofNat 7) (.ofNat 7) = true := by decide +kernel
set_option maxRecDepth 100000 in
theorem yvL_8 : yLk (.ofNat 8) (.ofNat 8) = true := by decide +kernel
set_option maxRecDepth 100000 in
theorem yvL_9 : yLk (.ofNat 9) (.ofNat 9) = true := by decide +kernel

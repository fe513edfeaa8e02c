/-! The law's loop looked through. -/
set_option maxRecDepth 100000 in
theorem yvL_20 : yLk (.ofNat 20) (.ofNat 20) = true := by decide +kernel
set_option maxRecDepth 100000 in
theorem yvL_21 : yLk (.ofNat 21) (.ofNat 21) = true := by decide +kernel
set_option maxRecDepth 100000 in
theorem yvL_22 : yLk (.ofNat 22) (.ofNat 22) = true := by decide +kernel
set_option maxRecDepth 100000 in
theorem yvL_23 : yLk (.ofNat 23) (.ofNat 23) = true := by decide +kernel
set_option maxRecDepth 100000 in
theorem yvL_24 : yLk (.ofNat 24) (.ofNat 24) = true := by decide +kernel

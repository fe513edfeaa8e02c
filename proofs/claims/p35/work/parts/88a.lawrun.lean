/-! The law's loop looked through. -/
set_option maxRecDepth 100000 in
theorem yvS : ylawH 1 yLL yLst yLw yLps none = true := by decide +kernel
set_option maxRecDepth 100000 in
theorem yvL_0 : yLk (.ofNat 0) (.ofNat 0) = true := by decide +kernel
set_option maxRecDepth 100000 in
theorem yvL_1 : yLk (.ofNat 1) (.ofNat 1) = true := by decide +kernel
set_option maxRecDepth 100000 in
theorem yvL_2 : yLk (.ofNat 2) (.ofNat 2) = true := by decide +kernel
set_option maxRecDepth 100000 in
theorem yvL_3 : yLk (.ofNat 3) (.ofNat 3) = true := by decide +kernel
set_option maxRecDepth 100000 in
theorem yvL_4 : yLk (.ofNat 4) (.ofNat 4) = true := by decide +kernel

/-! The law's loop looked through. -/
set_option maxRecDepth 100000 in
theorem yvL : ylawV yTt zMt yTb zC_L_law 1 yLw yLps yLb (yLn, ySc yLe yLa0 yLa1 yLa2 yLa3 yLa4) = true := by decide +kernel
set_option maxRecDepth 100000 in
theorem yvS : ylawH 1 yLL yLst yLw yLps none = true := by decide +kernel

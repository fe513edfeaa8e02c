/-! Each contract looked through. -/
set_option maxRecDepth 100000 in
theorem yv_55 : (yrkB yc_55 && (yver0 yTt zMt yTb 3 zC_X11_plan yc_55 yh_55 && yverA yTt zMt yTb zC_X11_plan yc_55 yh_55 yh_55)) = true := by decide +kernel
set_option maxRecDepth 100000 in
theorem yv_97 : (yrkB yc_97 && (yver0 yTt zMt yTb 6 zC_X12_feed yc_97 yh_97 && yverA yTt zMt yTb zC_X12_feed yc_97 yh_97 yh_97)) = true := by decide +kernel
set_option maxRecDepth 100000 in
theorem yv_104 : (yrkB yc_104 && (yver0 yTt zMt yTb 4 zC_X12_oldName yc_104 yh_104 && yverA yTt zMt yTb zC_X12_oldName yc_104 yh_104 yh_104)) = true := by decide +kernel
set_option maxRecDepth 100000 in
theorem yv_107 : (yrkB yc_107 && (yver0 yTt zMt yTb 3 zC_X12_unit yc_107 yh_107 && yverA yTt zMt yTb zC_X12_unit yc_107 yh_107 yh_107)) = true := by decide +kernel
set_option maxRecDepth 100000 in
theorem yv_109 : (yrkB yc_109 && (yver0 yTt zMt yTb 2 zC_X12_close yc_109 yh_109 && yverA yTt zMt yTb zC_X12_close yc_109 yh_109 yh_109)) = true := by decide +kernel
set_option maxRecDepth 100000 in
theorem yv_110 : (yrkB yc_110 && (yver0 yTt zMt yTb 3 zC_X12_hasBracket yc_110 yh_110 && yverA yTt zMt yTb zC_X12_hasBracket yc_110 yh_110 yh_110)) = true := by decide +kernel

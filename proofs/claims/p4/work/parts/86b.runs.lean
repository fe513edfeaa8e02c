/-! Each contract looked through. -/
set_option maxRecDepth 100000 in
theorem yv_54 : (yrkB yc_54 && (yver0 yTt zMt yTb 3 zC_X11_plan yc_54 yh_54 && yverA yTt zMt yTb zC_X11_plan yc_54 yh_54 yh_54)) = true := by decide +kernel
set_option maxRecDepth 100000 in
theorem yv_96 : (yrkB yc_96 && (yver0 yTt zMt yTb 6 zC_X12_feed yc_96 yh_96 && yverA yTt zMt yTb zC_X12_feed yc_96 yh_96 yh_96)) = true := by decide +kernel
set_option maxRecDepth 100000 in
theorem yv_103 : (yrkB yc_103 && (yver0 yTt zMt yTb 4 zC_X12_oldName yc_103 yh_103 && yverA yTt zMt yTb zC_X12_oldName yc_103 yh_103 yh_103)) = true := by decide +kernel
set_option maxRecDepth 100000 in
theorem yv_106 : (yrkB yc_106 && (yver0 yTt zMt yTb 3 zC_X12_unit yc_106 yh_106 && yverA yTt zMt yTb zC_X12_unit yc_106 yh_106 yh_106)) = true := by decide +kernel
set_option maxRecDepth 100000 in
theorem yv_108 : (yrkB yc_108 && (yver0 yTt zMt yTb 2 zC_X12_close yc_108 yh_108 && yverA yTt zMt yTb zC_X12_close yc_108 yh_108 yh_108)) = true := by decide +kernel
set_option maxRecDepth 100000 in
theorem yv_109 : (yrkB yc_109 && (yver0 yTt zMt yTb 3 zC_X12_hasBracket yc_109 yh_109 && yverA yTt zMt yTb zC_X12_hasBracket yc_109 yh_109 yh_109)) = true := by decide +kernel

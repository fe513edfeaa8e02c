/-! Each contract looked through. -/
set_option maxRecDepth 100000 in
theorem yv_54 : (yrkB yc_54 && (yver0 yTt zMt yTb 3 zC_X11_plan yc_54 yh_54 && yverA yTt zMt yTb zC_X11_plan yc_54 yh_54 yh_54)) = true := by decide +kernel
set_option maxRecDepth 100000 in
theorem yv_94 : (yrkB yc_94 && (yver0 yTt zMt yTb 6 zC_X12_feed yc_94 yh_94 && yverA yTt zMt yTb zC_X12_feed yc_94 yh_94 yh_94)) = true := by decide +kernel
set_option maxRecDepth 100000 in
theorem yv_101 : (yrkB yc_101 && (yver0 yTt zMt yTb 4 zC_X12_oldName yc_101 yh_101 && yverA yTt zMt yTb zC_X12_oldName yc_101 yh_101 yh_101)) = true := by decide +kernel
set_option maxRecDepth 100000 in
theorem yv_104 : (yrkB yc_104 && (yver0 yTt zMt yTb 3 zC_X12_unit yc_104 yh_104 && yverA yTt zMt yTb zC_X12_unit yc_104 yh_104 yh_104)) = true := by decide +kernel
set_option maxRecDepth 100000 in
theorem yv_106 : (yrkB yc_106 && (yver0 yTt zMt yTb 2 zC_X12_close yc_106 yh_106 && yverA yTt zMt yTb zC_X12_close yc_106 yh_106 yh_106)) = true := by decide +kernel
set_option maxRecDepth 100000 in
theorem yv_107 : (yrkB yc_107 && (yver0 yTt zMt yTb 3 zC_X12_hasBracket yc_107 yh_107 && yverA yTt zMt yTb zC_X12_hasBracket yc_107 yh_107 yh_107)) = true := by decide +kernel

/-! Each contract looked through. -/
set_option maxRecDepth 100000 in
theorem yv_101 : (yrkB yc_101 && (yver0 yTt zMt yTb 4 zC_X12_oldName yc_101 yh_101 && yverA yTt zMt yTb zC_X12_oldName yc_101 yh_101 yh_101)) = true := by decide +kernel
set_option maxRecDepth 100000 in
theorem yv_102 : (yrkB yc_102 && (yver0 yTt zMt yTb 1 zC_X12_tight yc_102 yh_102 && yverA yTt zMt yTb zC_X12_tight yc_102 yh_102 yh_102)) = true := by decide +kernel
set_option maxRecDepth 100000 in
theorem yv_104 : (yrkB yc_104 && (yver0 yTt zMt yTb 3 zC_X12_unit yc_104 yh_104 && yverA yTt zMt yTb zC_X12_unit yc_104 yh_104 yh_104)) = true := by decide +kernel
set_option maxRecDepth 100000 in
theorem yv_106 : (yrkB yc_106 && (yver0 yTt zMt yTb 2 zC_X12_close yc_106 yh_106 && yverA yTt zMt yTb zC_X12_close yc_106 yh_106 yh_106)) = true := by decide +kernel
set_option maxRecDepth 100000 in
theorem yv_107 : (yrkB yc_107 && (yver0 yTt zMt yTb 3 zC_X12_hasBracket yc_107 yh_107 && yverA yTt zMt yTb zC_X12_hasBracket yc_107 yh_107 yh_107)) = true := by decide +kernel
set_option maxRecDepth 100000 in
theorem yv_108 : (yrkB yc_108 && (yver0 yTt zMt yTb 2 zC_X12_close yc_108 yh_108 && yverA yTt zMt yTb zC_X12_close yc_108 yh_108 yh_108)) = true := by decide +kernel

/-! Each contract looked through. -/
set_option maxRecDepth 100000 in
theorem yv_101 : (yrkB yc_101 && (yver0 yTt zMt yTb 4 zC_X12_oldName yc_101 yh_101 && yverA yTt zMt yTb zC_X12_oldName yc_101 yh_101 yh_101)) = true := by decide +kernel
set_option maxRecDepth 100000 in
theorem yv_106 : (yrkB yc_106 && (yver0 yTt zMt yTb 4 zC_X12_oldName yc_106 yh_106 && yverA yTt zMt yTb zC_X12_oldName yc_106 yh_106 yh_106)) = true := by decide +kernel
set_option maxRecDepth 100000 in
theorem yv_108 : (yrkB yc_108 && (yver0 yTt zMt yTb 2 zC_X12_readSets yc_108 yh_108 && yverA yTt zMt yTb zC_X12_readSets yc_108 yh_108 yh_108)) = true := by decide +kernel
set_option maxRecDepth 100000 in
theorem yv_109 : (yrkB yc_109 && (yver0 yTt zMt yTb 1 zC_X12_readLine yc_109 yh_109 && yverA yTt zMt yTb zC_X12_readLine yc_109 yh_109 yh_109)) = true := by decide +kernel

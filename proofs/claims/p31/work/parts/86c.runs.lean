/-! Each contract looked through. -/
set_option maxRecDepth 100000 in
theorem yv_107 : (yrkB yc_107 && (yver0 yTt zMt yTb 2 zC_X12_close yc_107 yh_107 && yverA yTt zMt yTb zC_X12_close yc_107 yh_107 yh_107)) = true := by decide +kernel
set_option maxRecDepth 100000 in
theorem yv_109 : (yrkB yc_109 && (yver0 yTt zMt yTb 4 zC_X12_formula yc_109 yh_109 && yverA yTt zMt yTb zC_X12_formula yc_109 yh_109 yh_109)) = true := by decide +kernel
set_option maxRecDepth 100000 in
theorem yv_112 : (yrkB yc_112 && (yver0 yTt zMt yTb 4 zC_X12_oldName yc_112 yh_112 && yverA yTt zMt yTb zC_X12_oldName yc_112 yh_112 yh_112)) = true := by decide +kernel
set_option maxRecDepth 100000 in
theorem yv_113 : (yrkB yc_113 && (yver0 yTt zMt yTb 4 zC_X12_formula yc_113 yh_113 && yverA yTt zMt yTb zC_X12_formula yc_113 yh_113 yh_113)) = true := by decide +kernel
set_option maxRecDepth 100000 in
theorem yv_114 : (yrkB yc_114 && (yver0 yTt zMt yTb 2 zC_X12_readSets yc_114 yh_114 && yverA yTt zMt yTb zC_X12_readSets yc_114 yh_114 yh_114)) = true := by decide +kernel
set_option maxRecDepth 100000 in
theorem yv_115 : (yrkB yc_115 && (yver0 yTt zMt yTb 1 zC_X12_readLine yc_115 yh_115 && yverA yTt zMt yTb zC_X12_readLine yc_115 yh_115 yh_115)) = true := by decide +kernel

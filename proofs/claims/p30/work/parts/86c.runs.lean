/-! Each contract looked through. -/
set_option maxRecDepth 100000 in
theorem yv_108 : (yrkB yc_108 && (yver0 yTt zMt yTb 2 zC_X12_close yc_108 yh_108 && yverA yTt zMt yTb zC_X12_close yc_108 yh_108 yh_108)) = true := by decide +kernel
set_option maxRecDepth 100000 in
theorem yv_110 : (yrkB yc_110 && (yver0 yTt zMt yTb 4 zC_X12_formula yc_110 yh_110 && yverA yTt zMt yTb zC_X12_formula yc_110 yh_110 yh_110)) = true := by decide +kernel
set_option maxRecDepth 100000 in
theorem yv_113 : (yrkB yc_113 && (yver0 yTt zMt yTb 4 zC_X12_oldName yc_113 yh_113 && yverA yTt zMt yTb zC_X12_oldName yc_113 yh_113 yh_113)) = true := by decide +kernel
set_option maxRecDepth 100000 in
theorem yv_114 : (yrkB yc_114 && (yver0 yTt zMt yTb 4 zC_X12_formula yc_114 yh_114 && yverA yTt zMt yTb zC_X12_formula yc_114 yh_114 yh_114)) = true := by decide +kernel
set_option maxRecDepth 100000 in
theorem yv_115 : (yrkB yc_115 && (yver0 yTt zMt yTb 2 zC_X12_readSets yc_115 yh_115 && yverA yTt zMt yTb zC_X12_readSets yc_115 yh_115 yh_115)) = true := by decide +kernel
set_option maxRecDepth 100000 in
theorem yv_116 : (yrkB yc_116 && (yver0 yTt zMt yTb 1 zC_X12_readLine yc_116 yh_116 && yverA yTt zMt yTb zC_X12_readLine yc_116 yh_116 yh_116)) = true := by decide +kernel

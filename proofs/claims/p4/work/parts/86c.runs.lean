/-! Each contract looked through. -/
set_option maxRecDepth 100000 in
theorem yv_110 : (yrkB yc_110 && (yver0 yTt zMt yTb 2 zC_X12_close yc_110 yh_110 && yverA yTt zMt yTb zC_X12_close yc_110 yh_110 yh_110)) = true := by decide +kernel
set_option maxRecDepth 100000 in
theorem yv_112 : (yrkB yc_112 && (yver0 yTt zMt yTb 4 zC_X12_formula yc_112 yh_112 && yverA yTt zMt yTb zC_X12_formula yc_112 yh_112 yh_112)) = true := by decide +kernel
set_option maxRecDepth 100000 in
theorem yv_115 : (yrkB yc_115 && (yver0 yTt zMt yTb 4 zC_X12_oldName yc_115 yh_115 && yverA yTt zMt yTb zC_X12_oldName yc_115 yh_115 yh_115)) = true := by decide +kernel
set_option maxRecDepth 100000 in
theorem yv_116 : (yrkB yc_116 && (yver0 yTt zMt yTb 4 zC_X12_formula yc_116 yh_116 && yverA yTt zMt yTb zC_X12_formula yc_116 yh_116 yh_116)) = true := by decide +kernel
set_option maxRecDepth 100000 in
theorem yv_117 : (yrkB yc_117 && (yver0 yTt zMt yTb 2 zC_X12_readSets yc_117 yh_117 && yverA yTt zMt yTb zC_X12_readSets yc_117 yh_117 yh_117)) = true := by decide +kernel
set_option maxRecDepth 100000 in
theorem yv_118 : (yrkB yc_118 && (yver0 yTt zMt yTb 1 zC_X12_readLine yc_118 yh_118 && yverA yTt zMt yTb zC_X12_readLine yc_118 yh_118 yh_118)) = true := by decide +kernel

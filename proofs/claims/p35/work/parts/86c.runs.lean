/-! Each contract looked through. -/
set_option maxRecDepth 100000 in
theorem yv_112 : (yrkB yc_112 && (yver0 yTt zMt yTb 4 zC_X12_oldName yc_112 yh_112 && yverA yTt zMt yTb zC_X12_oldName yc_112 yh_112 yh_112)) = true := by decide +kernel
set_option maxRecDepth 100000 in
theorem yv_113 : (yrkB yc_113 && (yver0 yTt zMt yTb 4 zC_X12_formula yc_113 yh_113 && yverA yTt zMt yTb zC_X12_formula yc_113 yh_113 yh_113)) = true := by decide +kernel
set_option maxRecDepth 100000 in
theorem yv_114 : (yrkB yc_114 && (yver0 yTt zMt yTb 2 zC_X12_readSets yc_114 yh_114 && yverA yTt zMt yTb zC_X12_readSets yc_114 yh_114 yh_114)) = true := by decide +kernel
set_option maxRecDepth 100000 in
theorem yv_115 : (yrkB yc_115 && (yver0 yTt zMt yTb 1 zC_X12_readLine yc_115 yh_115 && yverA yTt zMt yTb zC_X12_readLine yc_115 yh_115 yh_115)) = true := by decide +kernel
set_option maxRecDepth 100000 in
theorem yv_116 : (yrkB yc_116 && (yver0 yTt zMt yTb 1 zC_X12_readAll yc_116 yh_116 && yverA yTt zMt yTb zC_X12_readAll yc_116 yh_116 yh_116)) = true := by decide +kernel
set_option maxRecDepth 100000 in
theorem yv_120 : (yrkB yc_120 && (yver0 yTt zMt yTb 2 zC_X12_land yc_120 yh_120 && yverA yTt zMt yTb zC_X12_land yc_120 yh_120 yh_120)) = true := by decide +kernel
set_option maxRecDepth 100000 in
theorem yv_135 : (yrkB yc_135 && (yver0 yTt zMt yTb 5 zC_X12_put yc_135 yh_135 && yverA yTt zMt yTb zC_X12_put yc_135 yh_135 yh_135)) = true := by decide +kernel

/-! Each contract looked through. -/
set_option maxRecDepth 100000 in
theorem yv_116 : (yrkB yc_116 && (yver0 yTt zMt yTb 1 zC_X12_readAll yc_116 yh_116 && yverA yTt zMt yTb zC_X12_readAll yc_116 yh_116 yh_116)) = true := by decide +kernel
set_option maxRecDepth 100000 in
theorem yv_120 : (yrkB yc_120 && (yver0 yTt zMt yTb 2 zC_X12_land yc_120 yh_120 && yverA yTt zMt yTb zC_X12_land yc_120 yh_120 yh_120)) = true := by decide +kernel
set_option maxRecDepth 100000 in
theorem yv_135 : (yrkB yc_135 && (yver0 yTt zMt yTb 5 zC_X12_put yc_135 yh_135 && yverA yTt zMt yTb zC_X12_put yc_135 yh_135 yh_135)) = true := by decide +kernel
set_option maxRecDepth 100000 in
theorem yv_138 : (yrkB yc_138 && (yver0 yTt zMt yTb 5 zC_X12_put yc_138 yh_138 && yverA yTt zMt yTb zC_X12_put yc_138 yh_138 yh_138)) = true := by decide +kernel
set_option maxRecDepth 100000 in
theorem yv_139 : (yrkB yc_139 && (yver0 yTt zMt yTb 5 zC_X12_putWay yc_139 yh_139 && yverA yTt zMt yTb zC_X12_putWay yc_139 yh_139 yh_139)) = true := by decide +kernel
set_option maxRecDepth 100000 in
theorem yv_143 : (yrkB yc_143 && (yver0 yTt zMt yTb 4 zC_X12_worked yc_143 yh_143 && yverA yTt zMt yTb zC_X12_worked yc_143 yh_143 yh_143)) = true := by decide +kernel

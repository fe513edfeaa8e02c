/-! Each contract looked through. -/
set_option maxRecDepth 100000 in
theorem yv_119 : (yrkB yc_119 && (yver0 yTt zMt yTb 1 zC_X12_readAll yc_119 yh_119 && yverA yTt zMt yTb zC_X12_readAll yc_119 yh_119 yh_119)) = true := by decide +kernel
set_option maxRecDepth 100000 in
theorem yv_123 : (yrkB yc_123 && (yver0 yTt zMt yTb 2 zC_X12_land yc_123 yh_123 && yverA yTt zMt yTb zC_X12_land yc_123 yh_123 yh_123)) = true := by decide +kernel
set_option maxRecDepth 100000 in
theorem yv_138 : (yrkB yc_138 && (yver0 yTt zMt yTb 5 zC_X12_put yc_138 yh_138 && yverA yTt zMt yTb zC_X12_put yc_138 yh_138 yh_138)) = true := by decide +kernel
set_option maxRecDepth 100000 in
theorem yv_141 : (yrkB yc_141 && (yver0 yTt zMt yTb 5 zC_X12_put yc_141 yh_141 && yverA yTt zMt yTb zC_X12_put yc_141 yh_141 yh_141)) = true := by decide +kernel
set_option maxRecDepth 100000 in
theorem yv_142 : (yrkB yc_142 && (yver0 yTt zMt yTb 5 zC_X12_putWay yc_142 yh_142 && yverA yTt zMt yTb zC_X12_putWay yc_142 yh_142 yh_142)) = true := by decide +kernel
set_option maxRecDepth 100000 in
theorem yv_146 : (yrkB yc_146 && (yver0 yTt zMt yTb 4 zC_X12_worked yc_146 yh_146 && yverA yTt zMt yTb zC_X12_worked yc_146 yh_146 yh_146)) = true := by decide +kernel

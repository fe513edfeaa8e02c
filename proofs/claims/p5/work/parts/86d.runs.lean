/-! Each contract looked through. -/
set_option maxRecDepth 100000 in
theorem yv_120 : (yrkB yc_120 && (yver0 yTt zMt yTb 1 zC_X12_readAll yc_120 yh_120 && yverA yTt zMt yTb zC_X12_readAll yc_120 yh_120 yh_120)) = true := by decide +kernel
set_option maxRecDepth 100000 in
theorem yv_124 : (yrkB yc_124 && (yver0 yTt zMt yTb 2 zC_X12_land yc_124 yh_124 && yverA yTt zMt yTb zC_X12_land yc_124 yh_124 yh_124)) = true := by decide +kernel
set_option maxRecDepth 100000 in
theorem yv_140 : (yrkB yc_140 && (yver0 yTt zMt yTb 5 zC_X12_put yc_140 yh_140 && yverA yTt zMt yTb zC_X12_put yc_140 yh_140 yh_140)) = true := by decide +kernel
set_option maxRecDepth 100000 in
theorem yv_143 : (yrkB yc_143 && (yver0 yTt zMt yTb 5 zC_X12_put yc_143 yh_143 && yverA yTt zMt yTb zC_X12_put yc_143 yh_143 yh_143)) = true := by decide +kernel
set_option maxRecDepth 100000 in
theorem yv_144 : (yrkB yc_144 && (yver0 yTt zMt yTb 5 zC_X12_putWay yc_144 yh_144 && yverA yTt zMt yTb zC_X12_putWay yc_144 yh_144 yh_144)) = true := by decide +kernel
set_option maxRecDepth 100000 in
theorem yv_148 : (yrkB yc_148 && (yver0 yTt zMt yTb 4 zC_X12_worked yc_148 yh_148 && yverA yTt zMt yTb zC_X12_worked yc_148 yh_148 yh_148)) = true := by decide +kernel

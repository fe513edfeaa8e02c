/-! Each contract looked through. -/
set_option maxRecDepth 100000 in
theorem yv_117 : (yrkB yc_117 && (yver0 yTt zMt yTb 1 zC_X12_readAll yc_117 yh_117 && yverA yTt zMt yTb zC_X12_readAll yc_117 yh_117 yh_117)) = true := by decide +kernel
set_option maxRecDepth 100000 in
theorem yv_121 : (yrkB yc_121 && (yver0 yTt zMt yTb 2 zC_X12_land yc_121 yh_121 && yverA yTt zMt yTb zC_X12_land yc_121 yh_121 yh_121)) = true := by decide +kernel
set_option maxRecDepth 100000 in
theorem yv_136 : (yrkB yc_136 && (yver0 yTt zMt yTb 5 zC_X12_put yc_136 yh_136 && yverA yTt zMt yTb zC_X12_put yc_136 yh_136 yh_136)) = true := by decide +kernel
set_option maxRecDepth 100000 in
theorem yv_139 : (yrkB yc_139 && (yver0 yTt zMt yTb 5 zC_X12_put yc_139 yh_139 && yverA yTt zMt yTb zC_X12_put yc_139 yh_139 yh_139)) = true := by decide +kernel
set_option maxRecDepth 100000 in
theorem yv_140 : (yrkB yc_140 && (yver0 yTt zMt yTb 5 zC_X12_putWay yc_140 yh_140 && yverA yTt zMt yTb zC_X12_putWay yc_140 yh_140 yh_140)) = true := by decide +kernel
set_option maxRecDepth 100000 in
theorem yv_144 : (yrkB yc_144 && (yver0 yTt zMt yTb 4 zC_X12_worked yc_144 yh_144 && yverA yTt zMt yTb zC_X12_worked yc_144 yh_144 yh_144)) = true := by decide +kernel

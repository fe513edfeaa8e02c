/-! Each contract looked through. -/
set_option maxRecDepth 100000 in
theorem yv_110 : (yrkB yc_110 && (yver0 yTt zMt yTb 1 zC_X12_readAll yc_110 yh_110 && yverA yTt zMt yTb zC_X12_readAll yc_110 yh_110 yh_110)) = true := by decide +kernel
set_option maxRecDepth 100000 in
theorem yv_113 : (yrkB yc_113 && (yver0 yTt zMt yTb 2 zC_X12_land yc_113 yh_113 && yverA yTt zMt yTb zC_X12_land yc_113 yh_113 yh_113)) = true := by decide +kernel
set_option maxRecDepth 100000 in
theorem yv_128 : (yrkB yc_128 && (yver0 yTt zMt yTb 5 zC_X12_put yc_128 yh_128 && yverA yTt zMt yTb zC_X12_put yc_128 yh_128 yh_128)) = true := by decide +kernel
set_option maxRecDepth 100000 in
theorem yv_129 : (yrkB yc_129 && (yver0 yTt zMt yTb 2 zC_X12_beginCome yc_129 yh_129 && yverA yTt zMt yTb zC_X12_beginCome yc_129 yh_129 yh_129)) = true := by decide +kernel

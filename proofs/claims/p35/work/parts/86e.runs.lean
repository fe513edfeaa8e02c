/-! Each contract looked through. -/
set_option maxRecDepth 100000 in
theorem yv_200 : (yrkB yc_200 && (yver0 yTt zMt yTb 2 zC_X12_land yc_200 yh_200 && yverA yTt zMt yTb zC_X12_land yc_200 yh_200 yh_200)) = true := by decide +kernel
set_option maxRecDepth 100000 in
theorem yv_203 : (yrkB yc_203 && (yver0 yTt zMt yTb 6 zC_X12_feed yc_203 yh_203 && yverA yTt zMt yTb zC_X12_feed yc_203 yh_203 yh_203)) = true := by decide +kernel
set_option maxRecDepth 100000 in
theorem yv_204 : (yrkB yc_204 && (yver0 yTt zMt yTb 4 zC_X12_layMost yc_204 yh_204 && yverA yTt zMt yTb zC_X12_layMost yc_204 yh_204 yh_204)) = true := by decide +kernel

/-! Each contract looked through. -/
set_option maxRecDepth 100000 in
theorem yv_201 : (yrkB yc_201 && (yver0 yTt zMt yTb 2 zC_X12_land yc_201 yh_201 && yverA yTt zMt yTb zC_X12_land yc_201 yh_201 yh_201)) = true := by decide +kernel
set_option maxRecDepth 100000 in
theorem yv_204 : (yrkB yc_204 && (yver0 yTt zMt yTb 6 zC_X12_feed yc_204 yh_204 && yverA yTt zMt yTb zC_X12_feed yc_204 yh_204 yh_204)) = true := by decide +kernel
set_option maxRecDepth 100000 in
theorem yv_205 : (yrkB yc_205 && (yver0 yTt zMt yTb 4 zC_X12_layMost yc_205 yh_205 && yverA yTt zMt yTb zC_X12_layMost yc_205 yh_205 yh_205)) = true := by decide +kernel

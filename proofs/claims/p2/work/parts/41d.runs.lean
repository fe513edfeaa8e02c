/-! Each contract looked through. -/
set_option maxRecDepth 100000 in
theorem yv_165 : (yrkB yc_165 && (yver0 yTt zMt yTb 4 zC_X12_layMost yc_165 yh_165 && yverA yTt zMt yTb zC_X12_layMost yc_165 yh_165 yh_165)) = true := by decide +kernel
set_option maxRecDepth 100000 in
theorem yv_166 : (yrkB yc_166 && (yver0 yTt zMt yTb 7 zC_X12_loophole yc_166 yh_166 && yverA yTt zMt yTb zC_X12_loophole yc_166 yh_166 yh_166)) = true := by decide +kernel
set_option maxRecDepth 100000 in
theorem yv_168 : (yrkB yc_168 && (yver0 yTt zMt yTb 4 zC_X12_plan yc_168 yh_168 && yverA yTt zMt yTb zC_X12_plan yc_168 yh_168 yh_168)) = true := by decide +kernel
set_option maxRecDepth 100000 in
theorem yv_169 : (yrkB yc_169 && (yver0 yTt zMt yTb 5 zC_X12_clash yc_169 yh_169 && yverA yTt zMt yTb zC_X12_clash yc_169 yh_169 yh_169)) = true := by decide +kernel

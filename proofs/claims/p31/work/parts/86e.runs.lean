/-! Each contract looked through. -/
set_option maxRecDepth 100000 in
theorem yv_185 : (yrkB yc_185 && (yver0 yTt zMt yTb 5 zC_X12_goOn yc_185 yh_185 && yverA yTt zMt yTb zC_X12_goOn yc_185 yh_185 yh_185)) = true := by decide +kernel
set_option maxRecDepth 100000 in
theorem yv_186 : (yrkB yc_186 && (yver0 yTt zMt yTb 4 zC_X12_layMost yc_186 yh_186 && yverA yTt zMt yTb zC_X12_layMost yc_186 yh_186 yh_186)) = true := by decide +kernel
set_option maxRecDepth 100000 in
theorem yv_188 : (yrkB yc_188 && (yver0 yTt zMt yTb 2 zC_X11_most yc_188 yh_188 && yverA yTt zMt yTb zC_X11_most yc_188 yh_188 yh_188)) = true := by decide +kernel
set_option maxRecDepth 100000 in
theorem yv_189 : (yrkB yc_189 && (yver0 yTt zMt yTb 4 zC_X12_plan yc_189 yh_189 && yverA yTt zMt yTb zC_X12_plan yc_189 yh_189 yh_189)) = true := by decide +kernel
set_option maxRecDepth 100000 in
theorem yv_199 : (yrkB yc_199 && (yver0 yTt zMt yTb 6 zC_X12_feed yc_199 yh_199 && yverA yTt zMt yTb zC_X12_feed yc_199 yh_199 yh_199)) = true := by decide +kernel
set_option maxRecDepth 100000 in
theorem yv_200 : (yrkB yc_200 && (yver0 yTt zMt yTb 4 zC_X12_layMost yc_200 yh_200 && yverA yTt zMt yTb zC_X12_layMost yc_200 yh_200 yh_200)) = true := by decide +kernel

/-! Each contract looked through. -/
set_option maxRecDepth 100000 in
theorem yv_176 : (yrkB yc_176 && (yver0 yTt zMt yTb 5 zC_X12_goOn yc_176 yh_176 && yverA yTt zMt yTb zC_X12_goOn yc_176 yh_176 yh_176)) = true := by decide +kernel
set_option maxRecDepth 100000 in
theorem yv_177 : (yrkB yc_177 && (yver0 yTt zMt yTb 4 zC_X12_layMost yc_177 yh_177 && yverA yTt zMt yTb zC_X12_layMost yc_177 yh_177 yh_177)) = true := by decide +kernel
set_option maxRecDepth 100000 in
theorem yv_179 : (yrkB yc_179 && (yver0 yTt zMt yTb 2 zC_X11_most yc_179 yh_179 && yverA yTt zMt yTb zC_X11_most yc_179 yh_179 yh_179)) = true := by decide +kernel
set_option maxRecDepth 100000 in
theorem yv_180 : (yrkB yc_180 && (yver0 yTt zMt yTb 4 zC_X12_plan yc_180 yh_180 && yverA yTt zMt yTb zC_X12_plan yc_180 yh_180 yh_180)) = true := by decide +kernel
set_option maxRecDepth 100000 in
theorem yv_190 : (yrkB yc_190 && (yver0 yTt zMt yTb 6 zC_X12_feed yc_190 yh_190 && yverA yTt zMt yTb zC_X12_feed yc_190 yh_190 yh_190)) = true := by decide +kernel
set_option maxRecDepth 100000 in
theorem yv_191 : (yrkB yc_191 && (yver0 yTt zMt yTb 4 zC_X12_layMost yc_191 yh_191 && yverA yTt zMt yTb zC_X12_layMost yc_191 yh_191 yh_191)) = true := by decide +kernel

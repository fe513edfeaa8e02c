/-! Each contract looked through. -/
set_option maxRecDepth 100000 in
theorem yv_171 : (yrkB yc_171 && (yver0 yTt zMt yTb 5 zC_X12_goOn yc_171 yh_171 && yverA yTt zMt yTb zC_X12_goOn yc_171 yh_171 yh_171)) = true := by decide +kernel
set_option maxRecDepth 100000 in
theorem yv_172 : (yrkB yc_172 && (yver0 yTt zMt yTb 4 zC_X12_layMost yc_172 yh_172 && yverA yTt zMt yTb zC_X12_layMost yc_172 yh_172 yh_172)) = true := by decide +kernel
set_option maxRecDepth 100000 in
theorem yv_174 : (yrkB yc_174 && (yver0 yTt zMt yTb 2 zC_X11_most yc_174 yh_174 && yverA yTt zMt yTb zC_X11_most yc_174 yh_174 yh_174)) = true := by decide +kernel
set_option maxRecDepth 100000 in
theorem yv_175 : (yrkB yc_175 && (yver0 yTt zMt yTb 4 zC_X12_plan yc_175 yh_175 && yverA yTt zMt yTb zC_X12_plan yc_175 yh_175 yh_175)) = true := by decide +kernel
set_option maxRecDepth 100000 in
theorem yv_185 : (yrkB yc_185 && (yver0 yTt zMt yTb 6 zC_X12_feed yc_185 yh_185 && yverA yTt zMt yTb zC_X12_feed yc_185 yh_185 yh_185)) = true := by decide +kernel
set_option maxRecDepth 100000 in
theorem yv_186 : (yrkB yc_186 && (yver0 yTt zMt yTb 4 zC_X12_layMost yc_186 yh_186 && yverA yTt zMt yTb zC_X12_layMost yc_186 yh_186 yh_186)) = true := by decide +kernel

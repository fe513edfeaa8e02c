/-! Each contract looked through. -/
set_option maxRecDepth 100000 in
theorem yv_174 : (yrkB yc_174 && (yver0 yTt zMt yTb 5 zC_X12_goOn yc_174 yh_174 && yverA yTt zMt yTb zC_X12_goOn yc_174 yh_174 yh_174)) = true := by decide +kernel
set_option maxRecDepth 100000 in
theorem yv_175 : (yrkB yc_175 && (yver0 yTt zMt yTb 4 zC_X12_layMost yc_175 yh_175 && yverA yTt zMt yTb zC_X12_layMost yc_175 yh_175 yh_175)) = true := by decide +kernel
set_option maxRecDepth 100000 in
theorem yv_177 : (yrkB yc_177 && (yver0 yTt zMt yTb 2 zC_X11_most yc_177 yh_177 && yverA yTt zMt yTb zC_X11_most yc_177 yh_177 yh_177)) = true := by decide +kernel
set_option maxRecDepth 100000 in
theorem yv_178 : (yrkB yc_178 && (yver0 yTt zMt yTb 4 zC_X12_plan yc_178 yh_178 && yverA yTt zMt yTb zC_X12_plan yc_178 yh_178 yh_178)) = true := by decide +kernel
set_option maxRecDepth 100000 in
theorem yv_188 : (yrkB yc_188 && (yver0 yTt zMt yTb 6 zC_X12_feed yc_188 yh_188 && yverA yTt zMt yTb zC_X12_feed yc_188 yh_188 yh_188)) = true := by decide +kernel
set_option maxRecDepth 100000 in
theorem yv_189 : (yrkB yc_189 && (yver0 yTt zMt yTb 4 zC_X12_layMost yc_189 yh_189 && yverA yTt zMt yTb zC_X12_layMost yc_189 yh_189 yh_189)) = true := by decide +kernel

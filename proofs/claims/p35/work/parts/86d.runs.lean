/-! Each contract looked through. -/
set_option maxRecDepth 100000 in
theorem yv_138 : (yrkB yc_138 && (yver0 yTt zMt yTb 5 zC_X12_put yc_138 yh_138 && yverA yTt zMt yTb zC_X12_put yc_138 yh_138 yh_138)) = true := by decide +kernel
set_option maxRecDepth 100000 in
theorem yv_139 : (yrkB yc_139 && (yver0 yTt zMt yTb 5 zC_X12_putWay yc_139 yh_139 && yverA yTt zMt yTb zC_X12_putWay yc_139 yh_139 yh_139)) = true := by decide +kernel
set_option maxRecDepth 100000 in
theorem yv_143 : (yrkB yc_143 && (yver0 yTt zMt yTb 4 zC_X12_worked yc_143 yh_143 && yverA yTt zMt yTb zC_X12_worked yc_143 yh_143 yh_143)) = true := by decide +kernel
set_option maxRecDepth 100000 in
theorem yv_187 : (yrkB yc_187 && (yver0 yTt zMt yTb 5 zC_X12_goOn yc_187 yh_187 && yverA yTt zMt yTb zC_X12_goOn yc_187 yh_187 yh_187)) = true := by decide +kernel
set_option maxRecDepth 100000 in
theorem yv_188 : (yrkB yc_188 && (yver0 yTt zMt yTb 4 zC_X12_layMost yc_188 yh_188 && yverA yTt zMt yTb zC_X12_layMost yc_188 yh_188 yh_188)) = true := by decide +kernel
set_option maxRecDepth 100000 in
theorem yv_190 : (yrkB yc_190 && (yver0 yTt zMt yTb 2 zC_X11_most yc_190 yh_190 && yverA yTt zMt yTb zC_X11_most yc_190 yh_190 yh_190)) = true := by decide +kernel
set_option maxRecDepth 100000 in
theorem yv_191 : (yrkB yc_191 && (yver0 yTt zMt yTb 4 zC_X12_plan yc_191 yh_191 && yverA yTt zMt yTb zC_X12_plan yc_191 yh_191 yh_191)) = true := by decide +kernel

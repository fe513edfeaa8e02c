/-! Each contract looked through. -/
set_option maxRecDepth 100000 in
theorem yv_145 : (yrkB yc_145 && (yver0 yTt zMt yTb 5 zC_X12_doSets yc_145 yh_145 && yverA yTt zMt yTb zC_X12_doSets yc_145 yh_145 yh_145)) = true := by decide +kernel
set_option maxRecDepth 100000 in
theorem yv_157 : (yrkB yc_157 && (yver0 yTt zMt yTb 5 zC_X12_doSets yc_157 yh_157 && yverA yTt zMt yTb zC_X12_doSets yc_157 yh_157 yh_157)) = true := by decide +kernel
set_option maxRecDepth 100000 in
theorem yv_172 : (yrkB yc_172 && (yver0 yTt zMt yTb 5 zC_X12_goOn yc_172 yh_172 && yverA yTt zMt yTb zC_X12_goOn yc_172 yh_172 yh_172)) = true := by decide +kernel
set_option maxRecDepth 100000 in
theorem yv_173 : (yrkB yc_173 && (yver0 yTt zMt yTb 4 zC_X12_layMost yc_173 yh_173 && yverA yTt zMt yTb zC_X12_layMost yc_173 yh_173 yh_173)) = true := by decide +kernel
set_option maxRecDepth 100000 in
theorem yv_174 : (yrkB yc_174 && (yver0 yTt zMt yTb 7 zC_X12_loophole yc_174 yh_174 && yverA yTt zMt yTb zC_X12_loophole yc_174 yh_174 yh_174)) = true := by decide +kernel
set_option maxRecDepth 100000 in
theorem yv_176 : (yrkB yc_176 && (yver0 yTt zMt yTb 4 zC_X12_plan yc_176 yh_176 && yverA yTt zMt yTb zC_X12_plan yc_176 yh_176 yh_176)) = true := by decide +kernel

/-! Each contract looked through. -/
set_option maxRecDepth 100000 in
theorem yv_132 : (yrkB yc_132 && (yver0 yTt zMt yTb 5 zC_X12_put yc_132 yh_132 && yverA yTt zMt yTb zC_X12_put yc_132 yh_132 yh_132)) = true := by decide +kernel
set_option maxRecDepth 100000 in
theorem yv_137 : (yrkB yc_137 && (yver0 yTt zMt yTb 5 zC_X12_doSets yc_137 yh_137 && yverA yTt zMt yTb zC_X12_doSets yc_137 yh_137 yh_137)) = true := by decide +kernel
set_option maxRecDepth 100000 in
theorem yv_149 : (yrkB yc_149 && (yver0 yTt zMt yTb 5 zC_X12_doSets yc_149 yh_149 && yverA yTt zMt yTb zC_X12_doSets yc_149 yh_149 yh_149)) = true := by decide +kernel
set_option maxRecDepth 100000 in
theorem yv_164 : (yrkB yc_164 && (yver0 yTt zMt yTb 5 zC_X12_goOn yc_164 yh_164 && yverA yTt zMt yTb zC_X12_goOn yc_164 yh_164 yh_164)) = true := by decide +kernel

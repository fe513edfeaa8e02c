/-! Each contract looked through. -/
set_option maxRecDepth 100000 in
theorem yv_177 : (yrkB yc_177 && (yver0 yTt zMt yTb 5 zC_X12_clash yc_177 yh_177 && yverA yTt zMt yTb zC_X12_clash yc_177 yh_177 yh_177)) = true := by decide +kernel
set_option maxRecDepth 100000 in
theorem yv_184 : (yrkB yc_184 && (yver0 yTt zMt yTb 4 zC_X12_layMost yc_184 yh_184 && yverA yTt zMt yTb zC_X12_layMost yc_184 yh_184 yh_184)) = true := by decide +kernel

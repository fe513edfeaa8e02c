/-! Each contract looked through. -/
set_option maxRecDepth 100000 in
theorem yv_173 : (yrkB yc_173 && (yver0 yTt zMt yTb 4 zC_X7_brokenBans yc_173 yh_173 && yverA yTt zMt yTb zC_X7_brokenBans yc_173 yh_173 yh_173)) = true := by decide +kernel
set_option maxRecDepth 100000 in
theorem yv_174 : (yrkB yc_174 && (yver0 yTt zMt yTb 3 zC_X1_passHours yc_174 yh_174 && yverA yTt zMt yTb zC_X1_passHours yc_174 yh_174 yh_174)) = true := by decide +kernel
set_option maxRecDepth 100000 in
theorem yv_175 : (yrkB yc_175 && (yver0 yTt zMt yTb 3 zC_X12_hours yc_175 yh_175 && yverA yTt zMt yTb zC_X12_hours yc_175 yh_175 yh_175)) = true := by decide +kernel

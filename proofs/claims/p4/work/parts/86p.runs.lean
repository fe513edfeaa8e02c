/-! Each contract looked through. -/
set_option maxRecDepth 100000 in
theorem yv_180 : (yrkB yc_180 && (yver0 yTt zMt yTb 4 zC_X6_comesRound yc_180 yh_180 && yverA yTt zMt yTb zC_X6_comesRound yc_180 yh_180 yh_180)) = true := by decide +kernel
set_option maxRecDepth 100000 in
theorem yv_181 : (yrkB yc_181 && (yver0 yTt zMt yTb 4 zC_X12_round yc_181 yh_181 && yverA yTt zMt yTb zC_X12_round yc_181 yh_181 yh_181)) = true := by decide +kernel
set_option maxRecDepth 100000 in
theorem yv_182 : (yrkB yc_182 && (yver0 yTt zMt yTb 3 zC_X7_takeTurns yc_182 yh_182 && yverA yTt zMt yTb zC_X7_takeTurns yc_182 yh_182 yh_182)) = true := by decide +kernel
set_option maxRecDepth 100000 in
theorem yv_183 : (yrkB yc_183 && (yver0 yTt zMt yTb 4 zC_X7_brokenBans yc_183 yh_183 && yverA yTt zMt yTb zC_X7_brokenBans yc_183 yh_183 yh_183)) = true := by decide +kernel
set_option maxRecDepth 100000 in
theorem yv_184 : (yrkB yc_184 && (yver0 yTt zMt yTb 3 zC_X1_passHours yc_184 yh_184 && yverA yTt zMt yTb zC_X1_passHours yc_184 yh_184 yh_184)) = true := by decide +kernel
set_option maxRecDepth 100000 in
theorem yv_185 : (yrkB yc_185 && (yver0 yTt zMt yTb 3 zC_X12_hours yc_185 yh_185 && yverA yTt zMt yTb zC_X12_hours yc_185 yh_185 yh_185)) = true := by decide +kernel

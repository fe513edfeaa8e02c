/-! Each contract looked through. -/
set_option maxRecDepth 100000 in
theorem yv_183 : (yrkB yc_183 && (yver0 yTt zMt yTb 8 zC_X12_all yc_183 yh_183 && yverA yTt zMt yTb zC_X12_all yc_183 yh_183 yh_183)) = true := by decide +kernel
set_option maxRecDepth 100000 in
theorem yv_184 : (yrkB yc_184 && (yver0 yTt zMt yTb 5 zC_X12_amendsTwo yc_184 yh_184 && yverA yTt zMt yTb zC_X12_amendsTwo yc_184 yh_184 yh_184)) = true := by decide +kernel
set_option maxRecDepth 100000 in
theorem yv_185 : (yrkB yc_185 && (yver0 yTt zMt yTb 7 zC_X12_amend yc_185 yh_185 && yverA yTt zMt yTb zC_X12_amend yc_185 yh_185 yh_185)) = true := by decide +kernel
set_option maxRecDepth 100000 in
theorem yv_186 : (yrkB yc_186 && (yver0 yTt zMt yTb 3 zC_X12_brokenNow yc_186 yh_186 && yverA yTt zMt yTb zC_X12_brokenNow yc_186 yh_186 yh_186)) = true := by decide +kernel
set_option maxRecDepth 100000 in
theorem yv_189 : (yrkB yc_189 && (yver0 yTt zMt yTb 7 zC_X12_loophole yc_189 yh_189 && yverA yTt zMt yTb zC_X12_loophole yc_189 yh_189 yh_189)) = true := by decide +kernel
set_option maxRecDepth 100000 in
theorem yv_192 : (yrkB yc_192 && (yver0 yTt zMt yTb 5 zC_X12_clash yc_192 yh_192 && yverA yTt zMt yTb zC_X12_clash yc_192 yh_192 yh_192)) = true := by decide +kernel
set_option maxRecDepth 100000 in
theorem yv_193 : (yrkB yc_193 && (yver0 yTt zMt yTb 4 zC_X6_comesRound yc_193 yh_193 && yverA yTt zMt yTb zC_X6_comesRound yc_193 yh_193 yh_193)) = true := by decide +kernel
set_option maxRecDepth 100000 in
theorem yv_194 : (yrkB yc_194 && (yver0 yTt zMt yTb 4 zC_X12_round yc_194 yh_194 && yverA yTt zMt yTb zC_X12_round yc_194 yh_194 yh_194)) = true := by decide +kernel
set_option maxRecDepth 100000 in
theorem yv_195 : (yrkB yc_195 && (yver0 yTt zMt yTb 3 zC_X7_takeTurns yc_195 yh_195 && yverA yTt zMt yTb zC_X7_takeTurns yc_195 yh_195 yh_195)) = true := by decide +kernel
set_option maxRecDepth 100000 in
theorem yv_196 : (yrkB yc_196 && (yver0 yTt zMt yTb 4 zC_X7_brokenBans yc_196 yh_196 && yverA yTt zMt yTb zC_X7_brokenBans yc_196 yh_196 yh_196)) = true := by decide +kernel
set_option maxRecDepth 100000 in
theorem yv_197 : (yrkB yc_197 && (yver0 yTt zMt yTb 3 zC_X1_passHours yc_197 yh_197 && yverA yTt zMt yTb zC_X1_passHours yc_197 yh_197 yh_197)) = true := by decide +kernel
set_option maxRecDepth 100000 in
theorem yv_198 : (yrkB yc_198 && (yver0 yTt zMt yTb 3 zC_X12_hours yc_198 yh_198 && yverA yTt zMt yTb zC_X12_hours yc_198 yh_198 yh_198)) = true := by decide +kernel

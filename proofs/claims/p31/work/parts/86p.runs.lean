/-! Each contract looked through. -/
set_option maxRecDepth 100000 in
theorem yv_181 : (yrkB yc_181 && (yver0 yTt zMt yTb 8 zC_X12_all yc_181 yh_181 && yverA yTt zMt yTb zC_X12_all yc_181 yh_181 yh_181)) = true := by decide +kernel
set_option maxRecDepth 100000 in
theorem yv_182 : (yrkB yc_182 && (yver0 yTt zMt yTb 5 zC_X12_amendsTwo yc_182 yh_182 && yverA yTt zMt yTb zC_X12_amendsTwo yc_182 yh_182 yh_182)) = true := by decide +kernel
set_option maxRecDepth 100000 in
theorem yv_183 : (yrkB yc_183 && (yver0 yTt zMt yTb 7 zC_X12_amend yc_183 yh_183 && yverA yTt zMt yTb zC_X12_amend yc_183 yh_183 yh_183)) = true := by decide +kernel
set_option maxRecDepth 100000 in
theorem yv_184 : (yrkB yc_184 && (yver0 yTt zMt yTb 3 zC_X12_brokenNow yc_184 yh_184 && yverA yTt zMt yTb zC_X12_brokenNow yc_184 yh_184 yh_184)) = true := by decide +kernel
set_option maxRecDepth 100000 in
theorem yv_187 : (yrkB yc_187 && (yver0 yTt zMt yTb 7 zC_X12_loophole yc_187 yh_187 && yverA yTt zMt yTb zC_X12_loophole yc_187 yh_187 yh_187)) = true := by decide +kernel
set_option maxRecDepth 100000 in
theorem yv_190 : (yrkB yc_190 && (yver0 yTt zMt yTb 5 zC_X12_clash yc_190 yh_190 && yverA yTt zMt yTb zC_X12_clash yc_190 yh_190 yh_190)) = true := by decide +kernel
set_option maxRecDepth 100000 in
theorem yv_191 : (yrkB yc_191 && (yver0 yTt zMt yTb 4 zC_X6_comesRound yc_191 yh_191 && yverA yTt zMt yTb zC_X6_comesRound yc_191 yh_191 yh_191)) = true := by decide +kernel
set_option maxRecDepth 100000 in
theorem yv_192 : (yrkB yc_192 && (yver0 yTt zMt yTb 4 zC_X12_round yc_192 yh_192 && yverA yTt zMt yTb zC_X12_round yc_192 yh_192 yh_192)) = true := by decide +kernel
set_option maxRecDepth 100000 in
theorem yv_193 : (yrkB yc_193 && (yver0 yTt zMt yTb 3 zC_X7_takeTurns yc_193 yh_193 && yverA yTt zMt yTb zC_X7_takeTurns yc_193 yh_193 yh_193)) = true := by decide +kernel
set_option maxRecDepth 100000 in
theorem yv_194 : (yrkB yc_194 && (yver0 yTt zMt yTb 4 zC_X7_brokenBans yc_194 yh_194 && yverA yTt zMt yTb zC_X7_brokenBans yc_194 yh_194 yh_194)) = true := by decide +kernel
set_option maxRecDepth 100000 in
theorem yv_195 : (yrkB yc_195 && (yver0 yTt zMt yTb 3 zC_X1_passHours yc_195 yh_195 && yverA yTt zMt yTb zC_X1_passHours yc_195 yh_195 yh_195)) = true := by decide +kernel
set_option maxRecDepth 100000 in
theorem yv_196 : (yrkB yc_196 && (yver0 yTt zMt yTb 3 zC_X12_hours yc_196 yh_196 && yverA yTt zMt yTb zC_X12_hours yc_196 yh_196 yh_196)) = true := by decide +kernel

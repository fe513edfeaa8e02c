/-! Each contract looked through. -/
set_option maxRecDepth 100000 in
theorem yv_166 : (yrkB yc_166 && (yver0 yTt zMt yTb 5 zC_X12_guilds yc_166 yh_166 && yverA yTt zMt yTb zC_X12_guilds yc_166 yh_166 yh_166)) = true := by decide +kernel
set_option maxRecDepth 100000 in
theorem yv_167 : (yrkB yc_167 && (yver0 yTt zMt yTb 8 zC_X12_all yc_167 yh_167 && yverA yTt zMt yTb zC_X12_all yc_167 yh_167 yh_167)) = true := by decide +kernel
set_option maxRecDepth 100000 in
theorem yv_168 : (yrkB yc_168 && (yver0 yTt zMt yTb 5 zC_X12_amendsTwo yc_168 yh_168 && yverA yTt zMt yTb zC_X12_amendsTwo yc_168 yh_168 yh_168)) = true := by decide +kernel
set_option maxRecDepth 100000 in
theorem yv_169 : (yrkB yc_169 && (yver0 yTt zMt yTb 7 zC_X12_amend yc_169 yh_169 && yverA yTt zMt yTb zC_X12_amend yc_169 yh_169 yh_169)) = true := by decide +kernel
set_option maxRecDepth 100000 in
theorem yv_170 : (yrkB yc_170 && (yver0 yTt zMt yTb 3 zC_X12_brokenNow yc_170 yh_170 && yverA yTt zMt yTb zC_X12_brokenNow yc_170 yh_170 yh_170)) = true := by decide +kernel
set_option maxRecDepth 100000 in
theorem yv_173 : (yrkB yc_173 && (yver0 yTt zMt yTb 7 zC_X12_loophole yc_173 yh_173 && yverA yTt zMt yTb zC_X12_loophole yc_173 yh_173 yh_173)) = true := by decide +kernel
set_option maxRecDepth 100000 in
theorem yv_176 : (yrkB yc_176 && (yver0 yTt zMt yTb 5 zC_X12_clash yc_176 yh_176 && yverA yTt zMt yTb zC_X12_clash yc_176 yh_176 yh_176)) = true := by decide +kernel
set_option maxRecDepth 100000 in
theorem yv_177 : (yrkB yc_177 && (yver0 yTt zMt yTb 4 zC_X6_comesRound yc_177 yh_177 && yverA yTt zMt yTb zC_X6_comesRound yc_177 yh_177 yh_177)) = true := by decide +kernel
set_option maxRecDepth 100000 in
theorem yv_178 : (yrkB yc_178 && (yver0 yTt zMt yTb 4 zC_X12_round yc_178 yh_178 && yverA yTt zMt yTb zC_X12_round yc_178 yh_178 yh_178)) = true := by decide +kernel
set_option maxRecDepth 100000 in
theorem yv_179 : (yrkB yc_179 && (yver0 yTt zMt yTb 3 zC_X7_takeTurns yc_179 yh_179 && yverA yTt zMt yTb zC_X7_takeTurns yc_179 yh_179 yh_179)) = true := by decide +kernel
set_option maxRecDepth 100000 in
theorem yv_180 : (yrkB yc_180 && (yver0 yTt zMt yTb 4 zC_X7_brokenBans yc_180 yh_180 && yverA yTt zMt yTb zC_X7_brokenBans yc_180 yh_180 yh_180)) = true := by decide +kernel
set_option maxRecDepth 100000 in
theorem yv_181 : (yrkB yc_181 && (yver0 yTt zMt yTb 3 zC_X1_passHours yc_181 yh_181 && yverA yTt zMt yTb zC_X1_passHours yc_181 yh_181 yh_181)) = true := by decide +kernel
set_option maxRecDepth 100000 in
theorem yv_182 : (yrkB yc_182 && (yver0 yTt zMt yTb 3 zC_X12_hours yc_182 yh_182 && yverA yTt zMt yTb zC_X12_hours yc_182 yh_182 yh_182)) = true := by decide +kernel

/-! Each contract looked through. -/
set_option maxRecDepth 100000 in
theorem yv_154 : (yrkB yc_154 && (yver0 yTt zMt yTb 2 zC_X12_about yc_154 yh_154 && yverA yTt zMt yTb zC_X12_about yc_154 yh_154 yh_154)) = true := by decide +kernel
set_option maxRecDepth 100000 in
theorem yv_155 : (yrkB yc_155 && (yver0 yTt zMt yTb 3 zC_X12_back yc_155 yh_155 && yverA yTt zMt yTb zC_X12_back yc_155 yh_155 yh_155)) = true := by decide +kernel
set_option maxRecDepth 100000 in
theorem yv_156 : (yrkB yc_156 && (yver0 yTt zMt yTb 3 zC_X12_image yc_156 yh_156 && yverA yTt zMt yTb zC_X12_image yc_156 yh_156 yh_156)) = true := by decide +kernel
set_option maxRecDepth 100000 in
theorem yv_157 : (yrkB yc_157 && (yver0 yTt zMt yTb 5 zC_X12_rests yc_157 yh_157 && yverA yTt zMt yTb zC_X12_rests yc_157 yh_157 yh_157)) = true := by decide +kernel
set_option maxRecDepth 100000 in
theorem yv_158 : (yrkB yc_158 && (yver0 yTt zMt yTb 4 zC_X12_look yc_158 yh_158 && yverA yTt zMt yTb zC_X12_look yc_158 yh_158 yh_158)) = true := by decide +kernel
set_option maxRecDepth 100000 in
theorem yv_159 : (yrkB yc_159 && (yver0 yTt zMt yTb 5 zC_X12_guilds yc_159 yh_159 && yverA yTt zMt yTb zC_X12_guilds yc_159 yh_159 yh_159)) = true := by decide +kernel
set_option maxRecDepth 100000 in
theorem yv_160 : (yrkB yc_160 && (yver0 yTt zMt yTb 8 zC_X12_all yc_160 yh_160 && yverA yTt zMt yTb zC_X12_all yc_160 yh_160 yh_160)) = true := by decide +kernel
set_option maxRecDepth 100000 in
theorem yv_161 : (yrkB yc_161 && (yver0 yTt zMt yTb 5 zC_X12_amendsTwo yc_161 yh_161 && yverA yTt zMt yTb zC_X12_amendsTwo yc_161 yh_161 yh_161)) = true := by decide +kernel
set_option maxRecDepth 100000 in
theorem yv_162 : (yrkB yc_162 && (yver0 yTt zMt yTb 7 zC_X12_amend yc_162 yh_162 && yverA yTt zMt yTb zC_X12_amend yc_162 yh_162 yh_162)) = true := by decide +kernel
set_option maxRecDepth 100000 in
theorem yv_163 : (yrkB yc_163 && (yver0 yTt zMt yTb 3 zC_X12_brokenNow yc_163 yh_163 && yverA yTt zMt yTb zC_X12_brokenNow yc_163 yh_163 yh_163)) = true := by decide +kernel
set_option maxRecDepth 100000 in
theorem yv_167 : (yrkB yc_167 && (yver0 yTt zMt yTb 2 zC_X11_most yc_167 yh_167 && yverA yTt zMt yTb zC_X11_most yc_167 yh_167 yh_167)) = true := by decide +kernel
set_option maxRecDepth 100000 in
theorem yv_170 : (yrkB yc_170 && (yver0 yTt zMt yTb 4 zC_X6_comesRound yc_170 yh_170 && yverA yTt zMt yTb zC_X6_comesRound yc_170 yh_170 yh_170)) = true := by decide +kernel
set_option maxRecDepth 100000 in
theorem yv_171 : (yrkB yc_171 && (yver0 yTt zMt yTb 4 zC_X12_round yc_171 yh_171 && yverA yTt zMt yTb zC_X12_round yc_171 yh_171 yh_171)) = true := by decide +kernel
set_option maxRecDepth 100000 in
theorem yv_172 : (yrkB yc_172 && (yver0 yTt zMt yTb 3 zC_X7_takeTurns yc_172 yh_172 && yverA yTt zMt yTb zC_X7_takeTurns yc_172 yh_172 yh_172)) = true := by decide +kernel

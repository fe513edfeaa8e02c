/-! Each contract looked through. -/
set_option maxRecDepth 100000 in
theorem yv_161 : (yrkB yc_161 && (yver0 yTt zMt yTb 3 zC_X12_goHours yc_161 yh_161 && yverA yTt zMt yTb zC_X12_goHours yc_161 yh_161 yh_161)) = true := by decide +kernel
set_option maxRecDepth 100000 in
theorem yv_162 : (yrkB yc_162 && (yver0 yTt zMt yTb 4 zC_X12_fullest yc_162 yh_162 && yverA yTt zMt yTb zC_X12_fullest yc_162 yh_162 yh_162)) = true := by decide +kernel
set_option maxRecDepth 100000 in
theorem yv_163 : (yrkB yc_163 && (yver0 yTt zMt yTb 7 zC_X12_ask yc_163 yh_163 && yverA yTt zMt yTb zC_X12_ask yc_163 yh_163 yh_163)) = true := by decide +kernel
set_option maxRecDepth 100000 in
theorem yv_164 : (yrkB yc_164 && (yver0 yTt zMt yTb 2 zC_X12_about yc_164 yh_164 && yverA yTt zMt yTb zC_X12_about yc_164 yh_164 yh_164)) = true := by decide +kernel
set_option maxRecDepth 100000 in
theorem yv_165 : (yrkB yc_165 && (yver0 yTt zMt yTb 3 zC_X12_back yc_165 yh_165 && yverA yTt zMt yTb zC_X12_back yc_165 yh_165 yh_165)) = true := by decide +kernel
set_option maxRecDepth 100000 in
theorem yv_166 : (yrkB yc_166 && (yver0 yTt zMt yTb 3 zC_X12_image yc_166 yh_166 && yverA yTt zMt yTb zC_X12_image yc_166 yh_166 yh_166)) = true := by decide +kernel
set_option maxRecDepth 100000 in
theorem yv_167 : (yrkB yc_167 && (yver0 yTt zMt yTb 5 zC_X12_rests yc_167 yh_167 && yverA yTt zMt yTb zC_X12_rests yc_167 yh_167 yh_167)) = true := by decide +kernel
set_option maxRecDepth 100000 in
theorem yv_168 : (yrkB yc_168 && (yver0 yTt zMt yTb 4 zC_X12_look yc_168 yh_168 && yverA yTt zMt yTb zC_X12_look yc_168 yh_168 yh_168)) = true := by decide +kernel
set_option maxRecDepth 100000 in
theorem yv_169 : (yrkB yc_169 && (yver0 yTt zMt yTb 5 zC_X12_guilds yc_169 yh_169 && yverA yTt zMt yTb zC_X12_guilds yc_169 yh_169 yh_169)) = true := by decide +kernel
set_option maxRecDepth 100000 in
theorem yv_170 : (yrkB yc_170 && (yver0 yTt zMt yTb 8 zC_X12_all yc_170 yh_170 && yverA yTt zMt yTb zC_X12_all yc_170 yh_170 yh_170)) = true := by decide +kernel
set_option maxRecDepth 100000 in
theorem yv_171 : (yrkB yc_171 && (yver0 yTt zMt yTb 5 zC_X12_amendsTwo yc_171 yh_171 && yverA yTt zMt yTb zC_X12_amendsTwo yc_171 yh_171 yh_171)) = true := by decide +kernel
set_option maxRecDepth 100000 in
theorem yv_172 : (yrkB yc_172 && (yver0 yTt zMt yTb 7 zC_X12_amend yc_172 yh_172 && yverA yTt zMt yTb zC_X12_amend yc_172 yh_172 yh_172)) = true := by decide +kernel
set_option maxRecDepth 100000 in
theorem yv_173 : (yrkB yc_173 && (yver0 yTt zMt yTb 3 zC_X12_brokenNow yc_173 yh_173 && yverA yTt zMt yTb zC_X12_brokenNow yc_173 yh_173 yh_173)) = true := by decide +kernel
set_option maxRecDepth 100000 in
theorem yv_176 : (yrkB yc_176 && (yver0 yTt zMt yTb 7 zC_X12_loophole yc_176 yh_176 && yverA yTt zMt yTb zC_X12_loophole yc_176 yh_176 yh_176)) = true := by decide +kernel
set_option maxRecDepth 100000 in
theorem yv_179 : (yrkB yc_179 && (yver0 yTt zMt yTb 5 zC_X12_clash yc_179 yh_179 && yverA yTt zMt yTb zC_X12_clash yc_179 yh_179 yh_179)) = true := by decide +kernel

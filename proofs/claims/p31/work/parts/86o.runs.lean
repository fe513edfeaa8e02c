/-! Each contract looked through. -/
set_option maxRecDepth 100000 in
theorem yv_161 : (yrkB yc_161 && (yver0 yTt zMt yTb 7 zC_X12_ask yc_161 yh_161 && yverA yTt zMt yTb zC_X12_ask yc_161 yh_161 yh_161)) = true := by decide +kernel
set_option maxRecDepth 100000 in
theorem yv_162 : (yrkB yc_162 && (yver0 yTt zMt yTb 2 zC_X12_about yc_162 yh_162 && yverA yTt zMt yTb zC_X12_about yc_162 yh_162 yh_162)) = true := by decide +kernel
set_option maxRecDepth 100000 in
theorem yv_163 : (yrkB yc_163 && (yver0 yTt zMt yTb 3 zC_X12_back yc_163 yh_163 && yverA yTt zMt yTb zC_X12_back yc_163 yh_163 yh_163)) = true := by decide +kernel
set_option maxRecDepth 100000 in
theorem yv_164 : (yrkB yc_164 && (yver0 yTt zMt yTb 3 zC_X12_image yc_164 yh_164 && yverA yTt zMt yTb zC_X12_image yc_164 yh_164 yh_164)) = true := by decide +kernel
set_option maxRecDepth 100000 in
theorem yv_165 : (yrkB yc_165 && (yver0 yTt zMt yTb 5 zC_X12_rests yc_165 yh_165 && yverA yTt zMt yTb zC_X12_rests yc_165 yh_165 yh_165)) = true := by decide +kernel
set_option maxRecDepth 100000 in
theorem yv_166 : (yrkB yc_166 && (yver0 yTt zMt yTb 2 zC_X4_takeBack yc_166 yh_166 && yverA yTt zMt yTb zC_X4_takeBack yc_166 yh_166 yh_166)) = true := by decide +kernel
set_option maxRecDepth 100000 in
theorem yv_170 : (yrkB yc_170 && (yver0 yTt zMt yTb 4 zC_X4_tell yc_170 yh_170 && yverA yTt zMt yTb zC_X4_tell yc_170 yh_170 yh_170)) = true := by decide +kernel
set_option maxRecDepth 100000 in
theorem yv_172 : (yrkB yc_172 && (yver0 yTt zMt yTb 4 zC_X12_look yc_172 yh_172 && yverA yTt zMt yTb zC_X12_look yc_172 yh_172 yh_172)) = true := by decide +kernel
set_option maxRecDepth 100000 in
theorem yv_173 : (yrkB yc_173 && (yver0 yTt zMt yTb 4 zC_X12_look yc_173 yh_173 && yverA yTt zMt yTb zC_X12_look yc_173 yh_173 yh_173)) = true := by decide +kernel
set_option maxRecDepth 100000 in
theorem yv_174 : (yrkB yc_174 && (yver0 yTt zMt yTb 4 zC_X12_look yc_174 yh_174 && yverA yTt zMt yTb zC_X12_look yc_174 yh_174 yh_174)) = true := by decide +kernel
set_option maxRecDepth 100000 in
theorem yv_175 : (yrkB yc_175 && (yver0 yTt zMt yTb 4 zC_X12_look yc_175 yh_175 && yverA yTt zMt yTb zC_X12_look yc_175 yh_175 yh_175)) = true := by decide +kernel
set_option maxRecDepth 100000 in
theorem yv_177 : (yrkB yc_177 && (yver0 yTt zMt yTb 4 zC_X12_look yc_177 yh_177 && yverA yTt zMt yTb zC_X12_look yc_177 yh_177 yh_177)) = true := by decide +kernel
set_option maxRecDepth 100000 in
theorem yv_178 : (yrkB yc_178 && (yver0 yTt zMt yTb 4 zC_X12_look yc_178 yh_178 && yverA yTt zMt yTb zC_X12_look yc_178 yh_178 yh_178)) = true := by decide +kernel
set_option maxRecDepth 100000 in
theorem yv_179 : (yrkB yc_179 && (yver0 yTt zMt yTb 4 zC_X12_look yc_179 yh_179 && yverA yTt zMt yTb zC_X12_look yc_179 yh_179 yh_179)) = true := by decide +kernel
set_option maxRecDepth 100000 in
theorem yv_180 : (yrkB yc_180 && (yver0 yTt zMt yTb 5 zC_X12_guilds yc_180 yh_180 && yverA yTt zMt yTb zC_X12_guilds yc_180 yh_180 yh_180)) = true := by decide +kernel

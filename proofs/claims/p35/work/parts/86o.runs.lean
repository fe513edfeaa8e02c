/-! Each contract looked through. -/
set_option maxRecDepth 100000 in
theorem yv_161 : (yrkB yc_161 && (yver0 yTt zMt yTb 7 zC_X12_ask yc_161 yh_161 && yverA yTt zMt yTb zC_X12_ask yc_161 yh_161 yh_161)) = true := by decide +kernel
set_option maxRecDepth 100000 in
theorem yv_162 : (yrkB yc_162 && (yver0 yTt zMt yTb 2 zC_X12_about yc_162 yh_162 && yverA yTt zMt yTb zC_X12_about yc_162 yh_162 yh_162)) = true := by decide +kernel
set_option maxRecDepth 100000 in
theorem yv_163 : (yrkB yc_163 && (yver0 yTt zMt yTb 3 zC_X12_back yc_163 yh_163 && yverA yTt zMt yTb zC_X12_back yc_163 yh_163 yh_163)) = true := by decide +kernel
set_option maxRecDepth 100000 in
theorem yv_164 : (yrkB yc_164 && (yver0 yTt zMt yTb 3 zC_X12_image yc_164 yh_164 && yverA yTt zMt yTb zC_X12_image yc_164 yh_164 yh_164)) = true := by decide +kernel
set_option maxRecDepth 100000 in
theorem yv_167 : (yrkB yc_167 && (yver0 yTt zMt yTb 5 zC_X12_rests yc_167 yh_167 && yverA yTt zMt yTb zC_X12_rests yc_167 yh_167 yh_167)) = true := by decide +kernel
set_option maxRecDepth 100000 in
theorem yv_168 : (yrkB yc_168 && (yver0 yTt zMt yTb 2 zC_X4_takeBack yc_168 yh_168 && yverA yTt zMt yTb zC_X4_takeBack yc_168 yh_168 yh_168)) = true := by decide +kernel
set_option maxRecDepth 100000 in
theorem yv_172 : (yrkB yc_172 && (yver0 yTt zMt yTb 4 zC_X4_tell yc_172 yh_172 && yverA yTt zMt yTb zC_X4_tell yc_172 yh_172 yh_172)) = true := by decide +kernel
set_option maxRecDepth 100000 in
theorem yv_174 : (yrkB yc_174 && (yver0 yTt zMt yTb 4 zC_X12_look yc_174 yh_174 && yverA yTt zMt yTb zC_X12_look yc_174 yh_174 yh_174)) = true := by decide +kernel
set_option maxRecDepth 100000 in
theorem yv_175 : (yrkB yc_175 && (yver0 yTt zMt yTb 4 zC_X12_look yc_175 yh_175 && yverA yTt zMt yTb zC_X12_look yc_175 yh_175 yh_175)) = true := by decide +kernel
set_option maxRecDepth 100000 in
theorem yv_176 : (yrkB yc_176 && (yver0 yTt zMt yTb 4 zC_X12_look yc_176 yh_176 && yverA yTt zMt yTb zC_X12_look yc_176 yh_176 yh_176)) = true := by decide +kernel
set_option maxRecDepth 100000 in
theorem yv_177 : (yrkB yc_177 && (yver0 yTt zMt yTb 4 zC_X12_look yc_177 yh_177 && yverA yTt zMt yTb zC_X12_look yc_177 yh_177 yh_177)) = true := by decide +kernel
set_option maxRecDepth 100000 in
theorem yv_179 : (yrkB yc_179 && (yver0 yTt zMt yTb 4 zC_X12_look yc_179 yh_179 && yverA yTt zMt yTb zC_X12_look yc_179 yh_179 yh_179)) = true := by decide +kernel
set_option maxRecDepth 100000 in
theorem yv_180 : (yrkB yc_180 && (yver0 yTt zMt yTb 4 zC_X12_look yc_180 yh_180 && yverA yTt zMt yTb zC_X12_look yc_180 yh_180 yh_180)) = true := by decide +kernel
set_option maxRecDepth 100000 in
theorem yv_181 : (yrkB yc_181 && (yver0 yTt zMt yTb 4 zC_X12_look yc_181 yh_181 && yverA yTt zMt yTb zC_X12_look yc_181 yh_181 yh_181)) = true := by decide +kernel
set_option maxRecDepth 100000 in
theorem yv_182 : (yrkB yc_182 && (yver0 yTt zMt yTb 5 zC_X12_guilds yc_182 yh_182 && yverA yTt zMt yTb zC_X12_guilds yc_182 yh_182 yh_182)) = true := by decide +kernel

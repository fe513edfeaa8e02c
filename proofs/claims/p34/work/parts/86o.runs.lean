/-! Each contract looked through. -/
set_option maxRecDepth 100000 in
theorem yv_161 : (yrkB yc_161 && (yver0 yTt zMt yTb 4 zC_X12_fullest yc_161 yh_161 && yverA yTt zMt yTb zC_X12_fullest yc_161 yh_161 yh_161)) = true := by decide +kernel
set_option maxRecDepth 100000 in
theorem yv_162 : (yrkB yc_162 && (yver0 yTt zMt yTb 7 zC_X12_ask yc_162 yh_162 && yverA yTt zMt yTb zC_X12_ask yc_162 yh_162 yh_162)) = true := by decide +kernel
set_option maxRecDepth 100000 in
theorem yv_163 : (yrkB yc_163 && (yver0 yTt zMt yTb 2 zC_X12_about yc_163 yh_163 && yverA yTt zMt yTb zC_X12_about yc_163 yh_163 yh_163)) = true := by decide +kernel
set_option maxRecDepth 100000 in
theorem yv_164 : (yrkB yc_164 && (yver0 yTt zMt yTb 3 zC_X12_back yc_164 yh_164 && yverA yTt zMt yTb zC_X12_back yc_164 yh_164 yh_164)) = true := by decide +kernel
set_option maxRecDepth 100000 in
theorem yv_165 : (yrkB yc_165 && (yver0 yTt zMt yTb 3 zC_X12_image yc_165 yh_165 && yverA yTt zMt yTb zC_X12_image yc_165 yh_165 yh_165)) = true := by decide +kernel
set_option maxRecDepth 100000 in
theorem yv_166 : (yrkB yc_166 && (yver0 yTt zMt yTb 3 zC_X11_rests yc_166 yh_166 && yverA yTt zMt yTb zC_X11_rests yc_166 yh_166 yh_166)) = true := by decide +kernel
set_option maxRecDepth 100000 in
theorem yv_169 : (yrkB yc_169 && (yver0 yTt zMt yTb 2 zC_X4_takeBack yc_169 yh_169 && yverA yTt zMt yTb zC_X4_takeBack yc_169 yh_169 yh_169)) = true := by decide +kernel
set_option maxRecDepth 100000 in
theorem yv_173 : (yrkB yc_173 && (yver0 yTt zMt yTb 4 zC_X4_tell yc_173 yh_173 && yverA yTt zMt yTb zC_X4_tell yc_173 yh_173 yh_173)) = true := by decide +kernel
set_option maxRecDepth 100000 in
theorem yv_175 : (yrkB yc_175 && (yver0 yTt zMt yTb 4 zC_X12_look yc_175 yh_175 && yverA yTt zMt yTb zC_X12_look yc_175 yh_175 yh_175)) = true := by decide +kernel
set_option maxRecDepth 100000 in
theorem yv_176 : (yrkB yc_176 && (yver0 yTt zMt yTb 4 zC_X12_look yc_176 yh_176 && yverA yTt zMt yTb zC_X12_look yc_176 yh_176 yh_176)) = true := by decide +kernel
set_option maxRecDepth 100000 in
theorem yv_177 : (yrkB yc_177 && (yver0 yTt zMt yTb 4 zC_X12_look yc_177 yh_177 && yverA yTt zMt yTb zC_X12_look yc_177 yh_177 yh_177)) = true := by decide +kernel
set_option maxRecDepth 100000 in
theorem yv_178 : (yrkB yc_178 && (yver0 yTt zMt yTb 4 zC_X12_look yc_178 yh_178 && yverA yTt zMt yTb zC_X12_look yc_178 yh_178 yh_178)) = true := by decide +kernel
set_option maxRecDepth 100000 in
theorem yv_180 : (yrkB yc_180 && (yver0 yTt zMt yTb 4 zC_X12_look yc_180 yh_180 && yverA yTt zMt yTb zC_X12_look yc_180 yh_180 yh_180)) = true := by decide +kernel
set_option maxRecDepth 100000 in
theorem yv_181 : (yrkB yc_181 && (yver0 yTt zMt yTb 4 zC_X12_look yc_181 yh_181 && yverA yTt zMt yTb zC_X12_look yc_181 yh_181 yh_181)) = true := by decide +kernel
set_option maxRecDepth 100000 in
theorem yv_182 : (yrkB yc_182 && (yver0 yTt zMt yTb 4 zC_X12_look yc_182 yh_182 && yverA yTt zMt yTb zC_X12_look yc_182 yh_182 yh_182)) = true := by decide +kernel

/-! Each contract looked through. -/
set_option maxRecDepth 100000 in
theorem yv_152 : (yrkB yc_152 && (yver0 yTt zMt yTb 2 zC_X12_untell yc_152 yh_152 && yverA yTt zMt yTb zC_X12_untell yc_152 yh_152 yh_152)) = true := by decide +kernel
set_option maxRecDepth 100000 in
theorem yv_153 : (yrkB yc_153 && (yver0 yTt zMt yTb 4 zC_X12_lastHour yc_153 yh_153 && yverA yTt zMt yTb zC_X12_lastHour yc_153 yh_153 yh_153)) = true := by decide +kernel
set_option maxRecDepth 100000 in
theorem yv_154 : (yrkB yc_154 && (yver0 yTt zMt yTb 2 zC_X12_loadTold yc_154 yh_154 && yverA yTt zMt yTb zC_X12_loadTold yc_154 yh_154 yh_154)) = true := by decide +kernel
set_option maxRecDepth 100000 in
theorem yv_155 : (yrkB yc_155 && (yver0 yTt zMt yTb 6 zC_X12_fits yc_155 yh_155 && yverA yTt zMt yTb zC_X12_fits yc_155 yh_155 yh_155)) = true := by decide +kernel
set_option maxRecDepth 100000 in
theorem yv_156 : (yrkB yc_156 && (yver0 yTt zMt yTb 4 zC_X12_fit yc_156 yh_156 && yverA yTt zMt yTb zC_X12_fit yc_156 yh_156 yh_156)) = true := by decide +kernel
set_option maxRecDepth 100000 in
theorem yv_157 : (yrkB yc_157 && (yver0 yTt zMt yTb 5 zC_X12_doSets yc_157 yh_157 && yverA yTt zMt yTb zC_X12_doSets yc_157 yh_157 yh_157)) = true := by decide +kernel
set_option maxRecDepth 100000 in
theorem yv_158 : (yrkB yc_158 && (yver0 yTt zMt yTb 2 zC_X12_doLaws yc_158 yh_158 && yverA yTt zMt yTb zC_X12_doLaws yc_158 yh_158 yh_158)) = true := by decide +kernel
set_option maxRecDepth 100000 in
theorem yv_159 : (yrkB yc_159 && (yver0 yTt zMt yTb 3 zC_X12_goHours yc_159 yh_159 && yverA yTt zMt yTb zC_X12_goHours yc_159 yh_159 yh_159)) = true := by decide +kernel
set_option maxRecDepth 100000 in
theorem yv_160 : (yrkB yc_160 && (yver0 yTt zMt yTb 4 zC_X12_fullest yc_160 yh_160 && yverA yTt zMt yTb zC_X12_fullest yc_160 yh_160 yh_160)) = true := by decide +kernel
set_option maxRecDepth 100000 in
theorem yv_161 : (yrkB yc_161 && (yver0 yTt zMt yTb 7 zC_X12_ask yc_161 yh_161 && yverA yTt zMt yTb zC_X12_ask yc_161 yh_161 yh_161)) = true := by decide +kernel
set_option maxRecDepth 100000 in
theorem yv_162 : (yrkB yc_162 && (yver0 yTt zMt yTb 2 zC_X12_about yc_162 yh_162 && yverA yTt zMt yTb zC_X12_about yc_162 yh_162 yh_162)) = true := by decide +kernel
set_option maxRecDepth 100000 in
theorem yv_163 : (yrkB yc_163 && (yver0 yTt zMt yTb 3 zC_X12_back yc_163 yh_163 && yverA yTt zMt yTb zC_X12_back yc_163 yh_163 yh_163)) = true := by decide +kernel
set_option maxRecDepth 100000 in
theorem yv_164 : (yrkB yc_164 && (yver0 yTt zMt yTb 3 zC_X12_image yc_164 yh_164 && yverA yTt zMt yTb zC_X12_image yc_164 yh_164 yh_164)) = true := by decide +kernel
set_option maxRecDepth 100000 in
theorem yv_165 : (yrkB yc_165 && (yver0 yTt zMt yTb 5 zC_X12_rests yc_165 yh_165 && yverA yTt zMt yTb zC_X12_rests yc_165 yh_165 yh_165)) = true := by decide +kernel

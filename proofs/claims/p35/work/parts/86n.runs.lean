/-! Each contract looked through. -/
set_option maxRecDepth 100000 in
theorem yv_146 : (yrkB yc_146 && (yver0 yTt zMt yTb 3 zC_X12_goHours yc_146 yh_146 && yverA yTt zMt yTb zC_X12_goHours yc_146 yh_146 yh_146)) = true := by decide +kernel
set_option maxRecDepth 100000 in
theorem yv_147 : (yrkB yc_147 && (yver0 yTt zMt yTb 5 zC_X12_wanted yc_147 yh_147 && yverA yTt zMt yTb zC_X12_wanted yc_147 yh_147 yh_147)) = true := by decide +kernel
set_option maxRecDepth 100000 in
theorem yv_148 : (yrkB yc_148 && (yver0 yTt zMt yTb 8 zC_X12_shifts yc_148 yh_148 && yverA yTt zMt yTb zC_X12_shifts yc_148 yh_148 yh_148)) = true := by decide +kernel
set_option maxRecDepth 100000 in
theorem yv_149 : (yrkB yc_149 && (yver0 yTt zMt yTb 4 zC_X12_more yc_149 yh_149 && yverA yTt zMt yTb zC_X12_more yc_149 yh_149 yh_149)) = true := by decide +kernel
set_option maxRecDepth 100000 in
theorem yv_150 : (yrkB yc_150 && (yver0 yTt zMt yTb 2 zC_X12_lies yc_150 yh_150 && yverA yTt zMt yTb zC_X12_lies yc_150 yh_150 yh_150)) = true := by decide +kernel
set_option maxRecDepth 100000 in
theorem yv_151 : (yrkB yc_151 && (yver0 yTt zMt yTb 4 zC_X12_look yc_151 yh_151 && yverA yTt zMt yTb zC_X12_look yc_151 yh_151 yh_151)) = true := by decide +kernel
set_option maxRecDepth 100000 in
theorem yv_152 : (yrkB yc_152 && (yver0 yTt zMt yTb 2 zC_X12_untell yc_152 yh_152 && yverA yTt zMt yTb zC_X12_untell yc_152 yh_152 yh_152)) = true := by decide +kernel
set_option maxRecDepth 100000 in
theorem yv_153 : (yrkB yc_153 && (yver0 yTt zMt yTb 4 zC_X12_lastHour yc_153 yh_153 && yverA yTt zMt yTb zC_X12_lastHour yc_153 yh_153 yh_153)) = true := by decide +kernel
set_option maxRecDepth 100000 in
theorem yv_154 : (yrkB yc_154 && (yver0 yTt zMt yTb 2 zC_X12_loadTold yc_154 yh_154 && yverA yTt zMt yTb zC_X12_loadTold yc_154 yh_154 yh_154)) = true := by decide +kernel
set_option maxRecDepth 100000 in
theorem yv_155 : (yrkB yc_155 && (yver0 yTt zMt yTb 6 zC_X12_fits yc_155 yh_155 && yverA yTt zMt yTb zC_X12_fits yc_155 yh_155 yh_155)) = true := by decide +kernel
set_option maxRecDepth 100000 in
theorem yv_156 : (yrkB yc_156 && (yver0 yTt zMt yTb 4 zC_X12_fit yc_156 yh_156 && yverA yTt zMt yTb zC_X12_fit yc_156 yh_156 yh_156)) = true := by decide +kernel
set_option maxRecDepth 100000 in
theorem yv_157 : (yrkB yc_157 && (yver0 yTt zMt yTb 5 zC_X12_doSets yc_157 yh_157 && yverA yTt zMt yTb zC_X12_doSets yc_157 yh_157 yh_157)) = true := by decide +kernel
set_option maxRecDepth 100000 in
theorem yv_158 : (yrkB yc_158 && (yver0 yTt zMt yTb 2 zC_X12_doLaws yc_158 yh_158 && yverA yTt zMt yTb zC_X12_doLaws yc_158 yh_158 yh_158)) = true := by decide +kernel
set_option maxRecDepth 100000 in
theorem yv_159 : (yrkB yc_159 && (yver0 yTt zMt yTb 3 zC_X12_goHours yc_159 yh_159 && yverA yTt zMt yTb zC_X12_goHours yc_159 yh_159 yh_159)) = true := by decide +kernel
set_option maxRecDepth 100000 in
theorem yv_160 : (yrkB yc_160 && (yver0 yTt zMt yTb 4 zC_X12_fullest yc_160 yh_160 && yverA yTt zMt yTb zC_X12_fullest yc_160 yh_160 yh_160)) = true := by decide +kernel

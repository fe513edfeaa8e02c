/-! Each contract looked through. -/
set_option maxRecDepth 100000 in
theorem yv_134 : (yrkB yc_134 && (yver0 yTt zMt yTb 5 zC_X12_isTrail yc_134 yh_134 && yverA yTt zMt yTb zC_X12_isTrail yc_134 yh_134 yh_134)) = true := by decide +kernel
set_option maxRecDepth 100000 in
theorem yv_135 : (yrkB yc_135 && (yver0 yTt zMt yTb 3 zC_X12_chainOf yc_135 yh_135 && yverA yTt zMt yTb zC_X12_chainOf yc_135 yh_135 yh_135)) = true := by decide +kernel
set_option maxRecDepth 100000 in
theorem yv_137 : (yrkB yc_137 && (yver0 yTt zMt yTb 2 zC_X12_beginCome yc_137 yh_137 && yverA yTt zMt yTb zC_X12_beginCome yc_137 yh_137 yh_137)) = true := by decide +kernel
set_option maxRecDepth 100000 in
theorem yv_138 : (yrkB yc_138 && (yver0 yTt zMt yTb 4 zC_X12_isCome yc_138 yh_138 && yverA yTt zMt yTb zC_X12_isCome yc_138 yh_138 yh_138)) = true := by decide +kernel
set_option maxRecDepth 100000 in
theorem yv_141 : (yrkB yc_141 && (yver0 yTt zMt yTb 3 zC_X12_loadCome yc_141 yh_141 && yverA yTt zMt yTb zC_X12_loadCome yc_141 yh_141 yh_141)) = true := by decide +kernel
set_option maxRecDepth 100000 in
theorem yv_142 : (yrkB yc_142 && (yver0 yTt zMt yTb 3 zC_X12_calendars yc_142 yh_142 && yverA yTt zMt yTb zC_X12_calendars yc_142 yh_142 yh_142)) = true := by decide +kernel
set_option maxRecDepth 100000 in
theorem yv_143 : (yrkB yc_143 && (yver0 yTt zMt yTb 4 zC_X12_layCalendar yc_143 yh_143 && yverA yTt zMt yTb zC_X12_layCalendar yc_143 yh_143 yh_143)) = true := by decide +kernel
set_option maxRecDepth 100000 in
theorem yv_145 : (yrkB yc_145 && (yver0 yTt zMt yTb 5 zC_X12_doSets yc_145 yh_145 && yverA yTt zMt yTb zC_X12_doSets yc_145 yh_145 yh_145)) = true := by decide +kernel
set_option maxRecDepth 100000 in
theorem yv_146 : (yrkB yc_146 && (yver0 yTt zMt yTb 2 zC_X12_doLaws yc_146 yh_146 && yverA yTt zMt yTb zC_X12_doLaws yc_146 yh_146 yh_146)) = true := by decide +kernel
set_option maxRecDepth 100000 in
theorem yv_147 : (yrkB yc_147 && (yver0 yTt zMt yTb 3 zC_X12_goHours yc_147 yh_147 && yverA yTt zMt yTb zC_X12_goHours yc_147 yh_147 yh_147)) = true := by decide +kernel
set_option maxRecDepth 100000 in
theorem yv_148 : (yrkB yc_148 && (yver0 yTt zMt yTb 5 zC_X12_wanted yc_148 yh_148 && yverA yTt zMt yTb zC_X12_wanted yc_148 yh_148 yh_148)) = true := by decide +kernel
set_option maxRecDepth 100000 in
theorem yv_149 : (yrkB yc_149 && (yver0 yTt zMt yTb 8 zC_X12_shifts yc_149 yh_149 && yverA yTt zMt yTb zC_X12_shifts yc_149 yh_149 yh_149)) = true := by decide +kernel
set_option maxRecDepth 100000 in
theorem yv_150 : (yrkB yc_150 && (yver0 yTt zMt yTb 4 zC_X12_more yc_150 yh_150 && yverA yTt zMt yTb zC_X12_more yc_150 yh_150 yh_150)) = true := by decide +kernel
set_option maxRecDepth 100000 in
theorem yv_151 : (yrkB yc_151 && (yver0 yTt zMt yTb 2 zC_X12_lies yc_151 yh_151 && yverA yTt zMt yTb zC_X12_lies yc_151 yh_151 yh_151)) = true := by decide +kernel

/-! Each contract looked through. -/
set_option maxRecDepth 100000 in
theorem yv_139 : (yrkB yc_139 && (yver0 yTt zMt yTb 3 zC_X12_goHours yc_139 yh_139 && yverA yTt zMt yTb zC_X12_goHours yc_139 yh_139 yh_139)) = true := by decide +kernel
set_option maxRecDepth 100000 in
theorem yv_140 : (yrkB yc_140 && (yver0 yTt zMt yTb 5 zC_X12_wanted yc_140 yh_140 && yverA yTt zMt yTb zC_X12_wanted yc_140 yh_140 yh_140)) = true := by decide +kernel
set_option maxRecDepth 100000 in
theorem yv_141 : (yrkB yc_141 && (yver0 yTt zMt yTb 8 zC_X12_shifts yc_141 yh_141 && yverA yTt zMt yTb zC_X12_shifts yc_141 yh_141 yh_141)) = true := by decide +kernel
set_option maxRecDepth 100000 in
theorem yv_142 : (yrkB yc_142 && (yver0 yTt zMt yTb 4 zC_X12_more yc_142 yh_142 && yverA yTt zMt yTb zC_X12_more yc_142 yh_142 yh_142)) = true := by decide +kernel
set_option maxRecDepth 100000 in
theorem yv_143 : (yrkB yc_143 && (yver0 yTt zMt yTb 2 zC_X12_lies yc_143 yh_143 && yverA yTt zMt yTb zC_X12_lies yc_143 yh_143 yh_143)) = true := by decide +kernel
set_option maxRecDepth 100000 in
theorem yv_144 : (yrkB yc_144 && (yver0 yTt zMt yTb 2 zC_X12_untell yc_144 yh_144 && yverA yTt zMt yTb zC_X12_untell yc_144 yh_144 yh_144)) = true := by decide +kernel
set_option maxRecDepth 100000 in
theorem yv_145 : (yrkB yc_145 && (yver0 yTt zMt yTb 4 zC_X12_lastHour yc_145 yh_145 && yverA yTt zMt yTb zC_X12_lastHour yc_145 yh_145 yh_145)) = true := by decide +kernel
set_option maxRecDepth 100000 in
theorem yv_146 : (yrkB yc_146 && (yver0 yTt zMt yTb 2 zC_X12_loadTold yc_146 yh_146 && yverA yTt zMt yTb zC_X12_loadTold yc_146 yh_146 yh_146)) = true := by decide +kernel
set_option maxRecDepth 100000 in
theorem yv_147 : (yrkB yc_147 && (yver0 yTt zMt yTb 6 zC_X12_fits yc_147 yh_147 && yverA yTt zMt yTb zC_X12_fits yc_147 yh_147 yh_147)) = true := by decide +kernel
set_option maxRecDepth 100000 in
theorem yv_148 : (yrkB yc_148 && (yver0 yTt zMt yTb 4 zC_X12_fit yc_148 yh_148 && yverA yTt zMt yTb zC_X12_fit yc_148 yh_148 yh_148)) = true := by decide +kernel
set_option maxRecDepth 100000 in
theorem yv_150 : (yrkB yc_150 && (yver0 yTt zMt yTb 2 zC_X12_doLaws yc_150 yh_150 && yverA yTt zMt yTb zC_X12_doLaws yc_150 yh_150 yh_150)) = true := by decide +kernel
set_option maxRecDepth 100000 in
theorem yv_151 : (yrkB yc_151 && (yver0 yTt zMt yTb 3 zC_X12_goHours yc_151 yh_151 && yverA yTt zMt yTb zC_X12_goHours yc_151 yh_151 yh_151)) = true := by decide +kernel
set_option maxRecDepth 100000 in
theorem yv_152 : (yrkB yc_152 && (yver0 yTt zMt yTb 4 zC_X12_fullest yc_152 yh_152 && yverA yTt zMt yTb zC_X12_fullest yc_152 yh_152 yh_152)) = true := by decide +kernel
set_option maxRecDepth 100000 in
theorem yv_153 : (yrkB yc_153 && (yver0 yTt zMt yTb 7 zC_X12_ask yc_153 yh_153 && yverA yTt zMt yTb zC_X12_ask yc_153 yh_153 yh_153)) = true := by decide +kernel

/-! Each contract looked through. -/
set_option maxRecDepth 100000 in
theorem yv_131 : (yrkB yc_131 && (yver0 yTt zMt yTb 4 zC_X12_isCome yc_131 yh_131 && yverA yTt zMt yTb zC_X12_isCome yc_131 yh_131 yh_131)) = true := by decide +kernel
set_option maxRecDepth 100000 in
theorem yv_132 : (yrkB yc_132 && (yver0 yTt zMt yTb 5 zC_X12_put yc_132 yh_132 && yverA yTt zMt yTb zC_X12_put yc_132 yh_132 yh_132)) = true := by decide +kernel
set_option maxRecDepth 100000 in
theorem yv_134 : (yrkB yc_134 && (yver0 yTt zMt yTb 3 zC_X12_calendars yc_134 yh_134 && yverA yTt zMt yTb zC_X12_calendars yc_134 yh_134 yh_134)) = true := by decide +kernel
set_option maxRecDepth 100000 in
theorem yv_135 : (yrkB yc_135 && (yver0 yTt zMt yTb 4 zC_X12_layCalendar yc_135 yh_135 && yverA yTt zMt yTb zC_X12_layCalendar yc_135 yh_135 yh_135)) = true := by decide +kernel
set_option maxRecDepth 100000 in
theorem yv_137 : (yrkB yc_137 && (yver0 yTt zMt yTb 5 zC_X12_doSets yc_137 yh_137 && yverA yTt zMt yTb zC_X12_doSets yc_137 yh_137 yh_137)) = true := by decide +kernel
set_option maxRecDepth 100000 in
theorem yv_138 : (yrkB yc_138 && (yver0 yTt zMt yTb 2 zC_X12_doLaws yc_138 yh_138 && yverA yTt zMt yTb zC_X12_doLaws yc_138 yh_138 yh_138)) = true := by decide +kernel
set_option maxRecDepth 100000 in
theorem yv_139 : (yrkB yc_139 && (yver0 yTt zMt yTb 3 zC_X12_goHours yc_139 yh_139 && yverA yTt zMt yTb zC_X12_goHours yc_139 yh_139 yh_139)) = true := by decide +kernel
set_option maxRecDepth 100000 in
theorem yv_140 : (yrkB yc_140 && (yver0 yTt zMt yTb 5 zC_X12_wanted yc_140 yh_140 && yverA yTt zMt yTb zC_X12_wanted yc_140 yh_140 yh_140)) = true := by decide +kernel
set_option maxRecDepth 100000 in
theorem yv_141 : (yrkB yc_141 && (yver0 yTt zMt yTb 8 zC_X12_shifts yc_141 yh_141 && yverA yTt zMt yTb zC_X12_shifts yc_141 yh_141 yh_141)) = true := by decide +kernel
set_option maxRecDepth 100000 in
theorem yv_142 : (yrkB yc_142 && (yver0 yTt zMt yTb 4 zC_X12_more yc_142 yh_142 && yverA yTt zMt yTb zC_X12_more yc_142 yh_142 yh_142)) = true := by decide +kernel
set_option maxRecDepth 100000 in
theorem yv_143 : (yrkB yc_143 && (yver0 yTt zMt yTb 2 zC_X12_lies yc_143 yh_143 && yverA yTt zMt yTb zC_X12_lies yc_143 yh_143 yh_143)) = true := by decide +kernel
set_option maxRecDepth 100000 in
theorem yv_144 : (yrkB yc_144 && (yver0 yTt zMt yTb 2 zC_X12_untell yc_144 yh_144 && yverA yTt zMt yTb zC_X12_untell yc_144 yh_144 yh_144)) = true := by decide +kernel
set_option maxRecDepth 100000 in
theorem yv_145 : (yrkB yc_145 && (yver0 yTt zMt yTb 4 zC_X12_lastHour yc_145 yh_145 && yverA yTt zMt yTb zC_X12_lastHour yc_145 yh_145 yh_145)) = true := by decide +kernel

/-! Each contract looked through. -/
set_option maxRecDepth 100000 in
theorem yv_127 : (yrkB yc_127 && (yver0 yTt zMt yTb 1 zC_X12_leap yc_127 yh_127 && yverA yTt zMt yTb zC_X12_leap yc_127 yh_127 yh_127)) = true := by decide +kernel
set_option maxRecDepth 100000 in
theorem yv_128 : (yrkB yc_128 && (yver0 yTt zMt yTb 4 zC_X12_exchange yc_128 yh_128 && yverA yTt zMt yTb zC_X12_exchange yc_128 yh_128 yh_128)) = true := by decide +kernel
set_option maxRecDepth 100000 in
theorem yv_129 : (yrkB yc_129 && (yver0 yTt zMt yTb 1 zC_X12_undo yc_129 yh_129 && yverA yTt zMt yTb zC_X12_undo yc_129 yh_129 yh_129)) = true := by decide +kernel
set_option maxRecDepth 100000 in
theorem yv_130 : (yrkB yc_130 && (yver0 yTt zMt yTb 1 zC_X12_redo yc_130 yh_130 && yverA yTt zMt yTb zC_X12_redo yc_130 yh_130 yh_130)) = true := by decide +kernel
set_option maxRecDepth 100000 in
theorem yv_131 : (yrkB yc_131 && (yver0 yTt zMt yTb 3 zC_X12_crime yc_131 yh_131 && yverA yTt zMt yTb zC_X12_crime yc_131 yh_131 yh_131)) = true := by decide +kernel
set_option maxRecDepth 100000 in
theorem yv_132 : (yrkB yc_132 && (yver0 yTt zMt yTb 3 zC_X12_putTrail yc_132 yh_132 && yverA yTt zMt yTb zC_X12_putTrail yc_132 yh_132 yh_132)) = true := by decide +kernel
set_option maxRecDepth 100000 in
theorem yv_133 : (yrkB yc_133 && (yver0 yTt zMt yTb 5 zC_X12_isTrail yc_133 yh_133 && yverA yTt zMt yTb zC_X12_isTrail yc_133 yh_133 yh_133)) = true := by decide +kernel
set_option maxRecDepth 100000 in
theorem yv_134 : (yrkB yc_134 && (yver0 yTt zMt yTb 3 zC_X12_chainOf yc_134 yh_134 && yverA yTt zMt yTb zC_X12_chainOf yc_134 yh_134 yh_134)) = true := by decide +kernel
set_option maxRecDepth 100000 in
theorem yv_136 : (yrkB yc_136 && (yver0 yTt zMt yTb 2 zC_X12_beginCome yc_136 yh_136 && yverA yTt zMt yTb zC_X12_beginCome yc_136 yh_136 yh_136)) = true := by decide +kernel
set_option maxRecDepth 100000 in
theorem yv_137 : (yrkB yc_137 && (yver0 yTt zMt yTb 4 zC_X12_isCome yc_137 yh_137 && yverA yTt zMt yTb zC_X12_isCome yc_137 yh_137 yh_137)) = true := by decide +kernel
set_option maxRecDepth 100000 in
theorem yv_140 : (yrkB yc_140 && (yver0 yTt zMt yTb 3 zC_X12_loadCome yc_140 yh_140 && yverA yTt zMt yTb zC_X12_loadCome yc_140 yh_140 yh_140)) = true := by decide +kernel
set_option maxRecDepth 100000 in
theorem yv_141 : (yrkB yc_141 && (yver0 yTt zMt yTb 3 zC_X12_calendars yc_141 yh_141 && yverA yTt zMt yTb zC_X12_calendars yc_141 yh_141 yh_141)) = true := by decide +kernel
set_option maxRecDepth 100000 in
theorem yv_142 : (yrkB yc_142 && (yver0 yTt zMt yTb 4 zC_X12_layCalendar yc_142 yh_142 && yverA yTt zMt yTb zC_X12_layCalendar yc_142 yh_142 yh_142)) = true := by decide +kernel
set_option maxRecDepth 100000 in
theorem yv_144 : (yrkB yc_144 && (yver0 yTt zMt yTb 5 zC_X12_doSets yc_144 yh_144 && yverA yTt zMt yTb zC_X12_doSets yc_144 yh_144 yh_144)) = true := by decide +kernel
set_option maxRecDepth 100000 in
theorem yv_145 : (yrkB yc_145 && (yver0 yTt zMt yTb 2 zC_X12_doLaws yc_145 yh_145 && yverA yTt zMt yTb zC_X12_doLaws yc_145 yh_145 yh_145)) = true := by decide +kernel

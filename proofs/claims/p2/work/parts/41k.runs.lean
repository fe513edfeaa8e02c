/-! Each contract looked through. -/
set_option maxRecDepth 100000 in
theorem yv_124 : (yrkB yc_124 && (yver0 yTt zMt yTb 5 zC_X12_isTrail yc_124 yh_124 && yverA yTt zMt yTb zC_X12_isTrail yc_124 yh_124 yh_124)) = true := by decide +kernel
set_option maxRecDepth 100000 in
theorem yv_125 : (yrkB yc_125 && (yver0 yTt zMt yTb 3 zC_X12_chainOf yc_125 yh_125 && yverA yTt zMt yTb zC_X12_chainOf yc_125 yh_125 yh_125)) = true := by decide +kernel
set_option maxRecDepth 100000 in
theorem yv_126 : (yrkB yc_126 && (yver0 yTt zMt yTb 5 zC_X12_put yc_126 yh_126 && yverA yTt zMt yTb zC_X12_put yc_126 yh_126 yh_126)) = true := by decide +kernel
set_option maxRecDepth 100000 in
theorem yv_127 : (yrkB yc_127 && (yver0 yTt zMt yTb 2 zC_X12_beginCome yc_127 yh_127 && yverA yTt zMt yTb zC_X12_beginCome yc_127 yh_127 yh_127)) = true := by decide +kernel
set_option maxRecDepth 100000 in
theorem yv_128 : (yrkB yc_128 && (yver0 yTt zMt yTb 3 zC_X12_loadCome yc_128 yh_128 && yverA yTt zMt yTb zC_X12_loadCome yc_128 yh_128 yh_128)) = true := by decide +kernel
set_option maxRecDepth 100000 in
theorem yv_129 : (yrkB yc_129 && (yver0 yTt zMt yTb 4 zC_X12_isCome yc_129 yh_129 && yverA yTt zMt yTb zC_X12_isCome yc_129 yh_129 yh_129)) = true := by decide +kernel
set_option maxRecDepth 100000 in
theorem yv_130 : (yrkB yc_130 && (yver0 yTt zMt yTb 5 zC_X12_put yc_130 yh_130 && yverA yTt zMt yTb zC_X12_put yc_130 yh_130 yh_130)) = true := by decide +kernel
set_option maxRecDepth 100000 in
theorem yv_132 : (yrkB yc_132 && (yver0 yTt zMt yTb 3 zC_X12_calendars yc_132 yh_132 && yverA yTt zMt yTb zC_X12_calendars yc_132 yh_132 yh_132)) = true := by decide +kernel
set_option maxRecDepth 100000 in
theorem yv_133 : (yrkB yc_133 && (yver0 yTt zMt yTb 4 zC_X12_layCalendar yc_133 yh_133 && yverA yTt zMt yTb zC_X12_layCalendar yc_133 yh_133 yh_133)) = true := by decide +kernel
set_option maxRecDepth 100000 in
theorem yv_135 : (yrkB yc_135 && (yver0 yTt zMt yTb 5 zC_X12_doSets yc_135 yh_135 && yverA yTt zMt yTb zC_X12_doSets yc_135 yh_135 yh_135)) = true := by decide +kernel
set_option maxRecDepth 100000 in
theorem yv_136 : (yrkB yc_136 && (yver0 yTt zMt yTb 2 zC_X12_doLaws yc_136 yh_136 && yverA yTt zMt yTb zC_X12_doLaws yc_136 yh_136 yh_136)) = true := by decide +kernel
set_option maxRecDepth 100000 in
theorem yv_137 : (yrkB yc_137 && (yver0 yTt zMt yTb 3 zC_X12_goHours yc_137 yh_137 && yverA yTt zMt yTb zC_X12_goHours yc_137 yh_137 yh_137)) = true := by decide +kernel

/-! Each contract looked through. -/
set_option maxRecDepth 100000 in
theorem yv_119 : (yrkB yc_119 && (yver0 yTt zMt yTb 4 zC_X12_shift yc_119 yh_119 && yverA yTt zMt yTb zC_X12_shift yc_119 yh_119 yh_119)) = true := by decide +kernel
set_option maxRecDepth 100000 in
theorem yv_120 : (yrkB yc_120 && (yver0 yTt zMt yTb 1 zC_X12_leap yc_120 yh_120 && yverA yTt zMt yTb zC_X12_leap yc_120 yh_120 yh_120)) = true := by decide +kernel
set_option maxRecDepth 100000 in
theorem yv_121 : (yrkB yc_121 && (yver0 yTt zMt yTb 4 zC_X12_exchange yc_121 yh_121 && yverA yTt zMt yTb zC_X12_exchange yc_121 yh_121 yh_121)) = true := by decide +kernel
set_option maxRecDepth 100000 in
theorem yv_122 : (yrkB yc_122 && (yver0 yTt zMt yTb 1 zC_X12_undo yc_122 yh_122 && yverA yTt zMt yTb zC_X12_undo yc_122 yh_122 yh_122)) = true := by decide +kernel
set_option maxRecDepth 100000 in
theorem yv_123 : (yrkB yc_123 && (yver0 yTt zMt yTb 1 zC_X12_redo yc_123 yh_123 && yverA yTt zMt yTb zC_X12_redo yc_123 yh_123 yh_123)) = true := by decide +kernel
set_option maxRecDepth 100000 in
theorem yv_124 : (yrkB yc_124 && (yver0 yTt zMt yTb 3 zC_X12_crime yc_124 yh_124 && yverA yTt zMt yTb zC_X12_crime yc_124 yh_124 yh_124)) = true := by decide +kernel
set_option maxRecDepth 100000 in
theorem yv_125 : (yrkB yc_125 && (yver0 yTt zMt yTb 3 zC_X12_putTrail yc_125 yh_125 && yverA yTt zMt yTb zC_X12_putTrail yc_125 yh_125 yh_125)) = true := by decide +kernel
set_option maxRecDepth 100000 in
theorem yv_126 : (yrkB yc_126 && (yver0 yTt zMt yTb 5 zC_X12_isTrail yc_126 yh_126 && yverA yTt zMt yTb zC_X12_isTrail yc_126 yh_126 yh_126)) = true := by decide +kernel
set_option maxRecDepth 100000 in
theorem yv_127 : (yrkB yc_127 && (yver0 yTt zMt yTb 3 zC_X12_chainOf yc_127 yh_127 && yverA yTt zMt yTb zC_X12_chainOf yc_127 yh_127 yh_127)) = true := by decide +kernel
set_option maxRecDepth 100000 in
theorem yv_130 : (yrkB yc_130 && (yver0 yTt zMt yTb 3 zC_X12_loadCome yc_130 yh_130 && yverA yTt zMt yTb zC_X12_loadCome yc_130 yh_130 yh_130)) = true := by decide +kernel
set_option maxRecDepth 100000 in
theorem yv_131 : (yrkB yc_131 && (yver0 yTt zMt yTb 4 zC_X12_isCome yc_131 yh_131 && yverA yTt zMt yTb zC_X12_isCome yc_131 yh_131 yh_131)) = true := by decide +kernel
set_option maxRecDepth 100000 in
theorem yv_134 : (yrkB yc_134 && (yver0 yTt zMt yTb 3 zC_X12_calendars yc_134 yh_134 && yverA yTt zMt yTb zC_X12_calendars yc_134 yh_134 yh_134)) = true := by decide +kernel
set_option maxRecDepth 100000 in
theorem yv_135 : (yrkB yc_135 && (yver0 yTt zMt yTb 4 zC_X12_layCalendar yc_135 yh_135 && yverA yTt zMt yTb zC_X12_layCalendar yc_135 yh_135 yh_135)) = true := by decide +kernel
set_option maxRecDepth 100000 in
theorem yv_138 : (yrkB yc_138 && (yver0 yTt zMt yTb 2 zC_X12_doLaws yc_138 yh_138 && yverA yTt zMt yTb zC_X12_doLaws yc_138 yh_138 yh_138)) = true := by decide +kernel

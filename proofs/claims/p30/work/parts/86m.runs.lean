/-! Each contract looked through. -/
set_option maxRecDepth 100000 in
theorem yv_119 : (yrkB yc_119 && (yver0 yTt zMt yTb 2 zC_X12_loadTold yc_119 yh_119 && yverA yTt zMt yTb zC_X12_loadTold yc_119 yh_119 yh_119)) = true := by decide +kernel
set_option maxRecDepth 100000 in
theorem yv_120 : (yrkB yc_120 && (yver0 yTt zMt yTb 2 zC_X12_keep yc_120 yh_120 && yverA yTt zMt yTb zC_X12_keep yc_120 yh_120 yh_120)) = true := by decide +kernel
set_option maxRecDepth 100000 in
theorem yv_122 : (yrkB yc_122 && (yver0 yTt zMt yTb 2 zC_X12_thing yc_122 yh_122 && yverA yTt zMt yTb zC_X12_thing yc_122 yh_122 yh_122)) = true := by decide +kernel
set_option maxRecDepth 100000 in
theorem yv_123 : (yrkB yc_123 && (yver0 yTt zMt yTb 2 zC_X12_feast yc_123 yh_123 && yverA yTt zMt yTb zC_X12_feast yc_123 yh_123 yh_123)) = true := by decide +kernel
set_option maxRecDepth 100000 in
theorem yv_124 : (yrkB yc_124 && (yver0 yTt zMt yTb 2 zC_X12_load yc_124 yh_124 && yverA yTt zMt yTb zC_X12_load yc_124 yh_124 yh_124)) = true := by decide +kernel
set_option maxRecDepth 100000 in
theorem yv_125 : (yrkB yc_125 && (yver0 yTt zMt yTb 3 zC_X12_done yc_125 yh_125 && yverA yTt zMt yTb zC_X12_done yc_125 yh_125 yh_125)) = true := by decide +kernel
set_option maxRecDepth 100000 in
theorem yv_126 : (yrkB yc_126 && (yver0 yTt zMt yTb 2 zC_X12_act yc_126 yh_126 && yverA yTt zMt yTb zC_X12_act yc_126 yh_126 yh_126)) = true := by decide +kernel
set_option maxRecDepth 100000 in
theorem yv_127 : (yrkB yc_127 && (yver0 yTt zMt yTb 4 zC_X12_shift yc_127 yh_127 && yverA yTt zMt yTb zC_X12_shift yc_127 yh_127 yh_127)) = true := by decide +kernel
set_option maxRecDepth 100000 in
theorem yv_128 : (yrkB yc_128 && (yver0 yTt zMt yTb 1 zC_X12_leap yc_128 yh_128 && yverA yTt zMt yTb zC_X12_leap yc_128 yh_128 yh_128)) = true := by decide +kernel
set_option maxRecDepth 100000 in
theorem yv_129 : (yrkB yc_129 && (yver0 yTt zMt yTb 4 zC_X12_exchange yc_129 yh_129 && yverA yTt zMt yTb zC_X12_exchange yc_129 yh_129 yh_129)) = true := by decide +kernel
set_option maxRecDepth 100000 in
theorem yv_130 : (yrkB yc_130 && (yver0 yTt zMt yTb 1 zC_X12_undo yc_130 yh_130 && yverA yTt zMt yTb zC_X12_undo yc_130 yh_130 yh_130)) = true := by decide +kernel
set_option maxRecDepth 100000 in
theorem yv_131 : (yrkB yc_131 && (yver0 yTt zMt yTb 1 zC_X12_redo yc_131 yh_131 && yverA yTt zMt yTb zC_X12_redo yc_131 yh_131 yh_131)) = true := by decide +kernel
set_option maxRecDepth 100000 in
theorem yv_132 : (yrkB yc_132 && (yver0 yTt zMt yTb 3 zC_X12_crime yc_132 yh_132 && yverA yTt zMt yTb zC_X12_crime yc_132 yh_132 yh_132)) = true := by decide +kernel
set_option maxRecDepth 100000 in
theorem yv_133 : (yrkB yc_133 && (yver0 yTt zMt yTb 3 zC_X12_putTrail yc_133 yh_133 && yverA yTt zMt yTb zC_X12_putTrail yc_133 yh_133 yh_133)) = true := by decide +kernel

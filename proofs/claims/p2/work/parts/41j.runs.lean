/-! Each contract looked through. -/
set_option maxRecDepth 100000 in
theorem yv_112 : (yrkB yc_112 && (yver0 yTt zMt yTb 2 zC_X12_fault yc_112 yh_112 && yverA yTt zMt yTb zC_X12_fault yc_112 yh_112 yh_112)) = true := by decide +kernel
set_option maxRecDepth 100000 in
theorem yv_113 : (yrkB yc_113 && (yver0 yTt zMt yTb 2 zC_X12_thing yc_113 yh_113 && yverA yTt zMt yTb zC_X12_thing yc_113 yh_113 yh_113)) = true := by decide +kernel
set_option maxRecDepth 100000 in
theorem yv_114 : (yrkB yc_114 && (yver0 yTt zMt yTb 2 zC_X12_feast yc_114 yh_114 && yverA yTt zMt yTb zC_X12_feast yc_114 yh_114 yh_114)) = true := by decide +kernel
set_option maxRecDepth 100000 in
theorem yv_115 : (yrkB yc_115 && (yver0 yTt zMt yTb 2 zC_X12_load yc_115 yh_115 && yverA yTt zMt yTb zC_X12_load yc_115 yh_115 yh_115)) = true := by decide +kernel
set_option maxRecDepth 100000 in
theorem yv_116 : (yrkB yc_116 && (yver0 yTt zMt yTb 2 zC_X12_act yc_116 yh_116 && yverA yTt zMt yTb zC_X12_act yc_116 yh_116 yh_116)) = true := by decide +kernel
set_option maxRecDepth 100000 in
theorem yv_117 : (yrkB yc_117 && (yver0 yTt zMt yTb 4 zC_X12_shift yc_117 yh_117 && yverA yTt zMt yTb zC_X12_shift yc_117 yh_117 yh_117)) = true := by decide +kernel
set_option maxRecDepth 100000 in
theorem yv_118 : (yrkB yc_118 && (yver0 yTt zMt yTb 1 zC_X12_leap yc_118 yh_118 && yverA yTt zMt yTb zC_X12_leap yc_118 yh_118 yh_118)) = true := by decide +kernel
set_option maxRecDepth 100000 in
theorem yv_119 : (yrkB yc_119 && (yver0 yTt zMt yTb 4 zC_X12_exchange yc_119 yh_119 && yverA yTt zMt yTb zC_X12_exchange yc_119 yh_119 yh_119)) = true := by decide +kernel
set_option maxRecDepth 100000 in
theorem yv_120 : (yrkB yc_120 && (yver0 yTt zMt yTb 1 zC_X12_undo yc_120 yh_120 && yverA yTt zMt yTb zC_X12_undo yc_120 yh_120 yh_120)) = true := by decide +kernel
set_option maxRecDepth 100000 in
theorem yv_121 : (yrkB yc_121 && (yver0 yTt zMt yTb 1 zC_X12_redo yc_121 yh_121 && yverA yTt zMt yTb zC_X12_redo yc_121 yh_121 yh_121)) = true := by decide +kernel
set_option maxRecDepth 100000 in
theorem yv_122 : (yrkB yc_122 && (yver0 yTt zMt yTb 3 zC_X12_crime yc_122 yh_122 && yverA yTt zMt yTb zC_X12_crime yc_122 yh_122 yh_122)) = true := by decide +kernel
set_option maxRecDepth 100000 in
theorem yv_123 : (yrkB yc_123 && (yver0 yTt zMt yTb 3 zC_X12_putTrail yc_123 yh_123 && yverA yTt zMt yTb zC_X12_putTrail yc_123 yh_123 yh_123)) = true := by decide +kernel

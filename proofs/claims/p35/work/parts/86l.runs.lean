/-! Each contract looked through. -/
set_option maxRecDepth 100000 in
theorem yv_99 : (yrkB yc_99 && (yver0 yTt zMt yTb 5 zC_X12_find yc_99 yh_99 && yverA yTt zMt yTb zC_X12_find yc_99 yh_99 yh_99)) = true := by decide +kernel
set_option maxRecDepth 100000 in
theorem yv_101 : (yrkB yc_101 && (yver0 yTt zMt yTb 1 zC_X12_tight yc_101 yh_101 && yverA yTt zMt yTb zC_X12_tight yc_101 yh_101 yh_101)) = true := by decide +kernel
set_option maxRecDepth 100000 in
theorem yv_102 : (yrkB yc_102 && (yver0 yTt zMt yTb 5 zC_X12_find yc_102 yh_102 && yverA yTt zMt yTb zC_X12_find yc_102 yh_102 yh_102)) = true := by decide +kernel
set_option maxRecDepth 100000 in
theorem yv_104 : (yrkB yc_104 && (yver0 yTt zMt yTb 2 zC_X12_hasRelation yc_104 yh_104 && yverA yTt zMt yTb zC_X12_hasRelation yc_104 yh_104 yh_104)) = true := by decide +kernel
set_option maxRecDepth 100000 in
theorem yv_108 : (yrkB yc_108 && (yver0 yTt zMt yTb 5 zC_X12_find yc_108 yh_108 && yverA yTt zMt yTb zC_X12_find yc_108 yh_108 yh_108)) = true := by decide +kernel
set_option maxRecDepth 100000 in
theorem yv_110 : (yrkB yc_110 && (yver0 yTt zMt yTb 5 zC_X12_find yc_110 yh_110 && yverA yTt zMt yTb zC_X12_find yc_110 yh_110 yh_110)) = true := by decide +kernel
set_option maxRecDepth 100000 in
theorem yv_111 : (yrkB yc_111 && (yver0 yTt zMt yTb 5 zC_X12_find yc_111 yh_111 && yverA yTt zMt yTb zC_X12_find yc_111 yh_111 yh_111)) = true := by decide +kernel
set_option maxRecDepth 100000 in
theorem yv_118 : (yrkB yc_118 && (yver0 yTt zMt yTb 2 zC_X12_loadTold yc_118 yh_118 && yverA yTt zMt yTb zC_X12_loadTold yc_118 yh_118 yh_118)) = true := by decide +kernel
set_option maxRecDepth 100000 in
theorem yv_119 : (yrkB yc_119 && (yver0 yTt zMt yTb 2 zC_X12_keep yc_119 yh_119 && yverA yTt zMt yTb zC_X12_keep yc_119 yh_119 yh_119)) = true := by decide +kernel
set_option maxRecDepth 100000 in
theorem yv_121 : (yrkB yc_121 && (yver0 yTt zMt yTb 2 zC_X12_thing yc_121 yh_121 && yverA yTt zMt yTb zC_X12_thing yc_121 yh_121 yh_121)) = true := by decide +kernel
set_option maxRecDepth 100000 in
theorem yv_122 : (yrkB yc_122 && (yver0 yTt zMt yTb 2 zC_X12_feast yc_122 yh_122 && yverA yTt zMt yTb zC_X12_feast yc_122 yh_122 yh_122)) = true := by decide +kernel
set_option maxRecDepth 100000 in
theorem yv_123 : (yrkB yc_123 && (yver0 yTt zMt yTb 2 zC_X12_load yc_123 yh_123 && yverA yTt zMt yTb zC_X12_load yc_123 yh_123 yh_123)) = true := by decide +kernel
set_option maxRecDepth 100000 in
theorem yv_124 : (yrkB yc_124 && (yver0 yTt zMt yTb 3 zC_X12_done yc_124 yh_124 && yverA yTt zMt yTb zC_X12_done yc_124 yh_124 yh_124)) = true := by decide +kernel
set_option maxRecDepth 100000 in
theorem yv_125 : (yrkB yc_125 && (yver0 yTt zMt yTb 2 zC_X12_act yc_125 yh_125 && yverA yTt zMt yTb zC_X12_act yc_125 yh_125 yh_125)) = true := by decide +kernel
set_option maxRecDepth 100000 in
theorem yv_126 : (yrkB yc_126 && (yver0 yTt zMt yTb 4 zC_X12_shift yc_126 yh_126 && yverA yTt zMt yTb zC_X12_shift yc_126 yh_126 yh_126)) = true := by decide +kernel

/-! Each contract looked through. -/
set_option maxRecDepth 100000 in
theorem yv_98 : (yrkB yc_98 && (yver0 yTt zMt yTb 5 zC_X12_find yc_98 yh_98 && yverA yTt zMt yTb zC_X12_find yc_98 yh_98 yh_98)) = true := by decide +kernel
set_option maxRecDepth 100000 in
theorem yv_99 : (yrkB yc_99 && (yver0 yTt zMt yTb 5 zC_X12_find yc_99 yh_99 && yverA yTt zMt yTb zC_X12_find yc_99 yh_99 yh_99)) = true := by decide +kernel
set_option maxRecDepth 100000 in
theorem yv_100 : (yrkB yc_100 && (yver0 yTt zMt yTb 5 zC_X12_find yc_100 yh_100 && yverA yTt zMt yTb zC_X12_find yc_100 yh_100 yh_100)) = true := by decide +kernel
set_option maxRecDepth 100000 in
theorem yv_102 : (yrkB yc_102 && (yver0 yTt zMt yTb 5 zC_X12_find yc_102 yh_102 && yverA yTt zMt yTb zC_X12_find yc_102 yh_102 yh_102)) = true := by decide +kernel
set_option maxRecDepth 100000 in
theorem yv_103 : (yrkB yc_103 && (yver0 yTt zMt yTb 5 zC_X12_find yc_103 yh_103 && yverA yTt zMt yTb zC_X12_find yc_103 yh_103 yh_103)) = true := by decide +kernel
set_option maxRecDepth 100000 in
theorem yv_104 : (yrkB yc_104 && (yver0 yTt zMt yTb 5 zC_X12_find yc_104 yh_104 && yverA yTt zMt yTb zC_X12_find yc_104 yh_104 yh_104)) = true := by decide +kernel
set_option maxRecDepth 100000 in
theorem yv_105 : (yrkB yc_105 && (yver0 yTt zMt yTb 5 zC_X12_find yc_105 yh_105 && yverA yTt zMt yTb zC_X12_find yc_105 yh_105 yh_105)) = true := by decide +kernel
set_option maxRecDepth 100000 in
theorem yv_111 : (yrkB yc_111 && (yver0 yTt zMt yTb 2 zC_X12_loadTold yc_111 yh_111 && yverA yTt zMt yTb zC_X12_loadTold yc_111 yh_111 yh_111)) = true := by decide +kernel
set_option maxRecDepth 100000 in
theorem yv_112 : (yrkB yc_112 && (yver0 yTt zMt yTb 2 zC_X12_keep yc_112 yh_112 && yverA yTt zMt yTb zC_X12_keep yc_112 yh_112 yh_112)) = true := by decide +kernel
set_option maxRecDepth 100000 in
theorem yv_114 : (yrkB yc_114 && (yver0 yTt zMt yTb 2 zC_X12_fault yc_114 yh_114 && yverA yTt zMt yTb zC_X12_fault yc_114 yh_114 yh_114)) = true := by decide +kernel
set_option maxRecDepth 100000 in
theorem yv_115 : (yrkB yc_115 && (yver0 yTt zMt yTb 2 zC_X12_thing yc_115 yh_115 && yverA yTt zMt yTb zC_X12_thing yc_115 yh_115 yh_115)) = true := by decide +kernel
set_option maxRecDepth 100000 in
theorem yv_116 : (yrkB yc_116 && (yver0 yTt zMt yTb 2 zC_X12_feast yc_116 yh_116 && yverA yTt zMt yTb zC_X12_feast yc_116 yh_116 yh_116)) = true := by decide +kernel
set_option maxRecDepth 100000 in
theorem yv_117 : (yrkB yc_117 && (yver0 yTt zMt yTb 2 zC_X12_load yc_117 yh_117 && yverA yTt zMt yTb zC_X12_load yc_117 yh_117 yh_117)) = true := by decide +kernel
set_option maxRecDepth 100000 in
theorem yv_118 : (yrkB yc_118 && (yver0 yTt zMt yTb 2 zC_X12_act yc_118 yh_118 && yverA yTt zMt yTb zC_X12_act yc_118 yh_118 yh_118)) = true := by decide +kernel

/-! Each contract looked through. -/
set_option maxRecDepth 100000 in
theorem yv_98 : (yrkB yc_98 && (yver0 yTt zMt yTb 5 zC_X12_find yc_98 yh_98 && yverA yTt zMt yTb zC_X12_find yc_98 yh_98 yh_98)) = true := by decide +kernel
set_option maxRecDepth 100000 in
theorem yv_99 : (yrkB yc_99 && (yver0 yTt zMt yTb 5 zC_X12_find yc_99 yh_99 && yverA yTt zMt yTb zC_X12_find yc_99 yh_99 yh_99)) = true := by decide +kernel
set_option maxRecDepth 100000 in
theorem yv_100 : (yrkB yc_100 && (yver0 yTt zMt yTb 5 zC_X12_find yc_100 yh_100 && yverA yTt zMt yTb zC_X12_find yc_100 yh_100 yh_100)) = true := by decide +kernel
set_option maxRecDepth 100000 in
theorem yv_103 : (yrkB yc_103 && (yver0 yTt zMt yTb 5 zC_X12_find yc_103 yh_103 && yverA yTt zMt yTb zC_X12_find yc_103 yh_103 yh_103)) = true := by decide +kernel
set_option maxRecDepth 100000 in
theorem yv_105 : (yrkB yc_105 && (yver0 yTt zMt yTb 2 zC_X12_hasRelation yc_105 yh_105 && yverA yTt zMt yTb zC_X12_hasRelation yc_105 yh_105 yh_105)) = true := by decide +kernel
set_option maxRecDepth 100000 in
theorem yv_109 : (yrkB yc_109 && (yver0 yTt zMt yTb 5 zC_X12_find yc_109 yh_109 && yverA yTt zMt yTb zC_X12_find yc_109 yh_109 yh_109)) = true := by decide +kernel
set_option maxRecDepth 100000 in
theorem yv_111 : (yrkB yc_111 && (yver0 yTt zMt yTb 5 zC_X12_find yc_111 yh_111 && yverA yTt zMt yTb zC_X12_find yc_111 yh_111 yh_111)) = true := by decide +kernel
set_option maxRecDepth 100000 in
theorem yv_112 : (yrkB yc_112 && (yver0 yTt zMt yTb 5 zC_X12_find yc_112 yh_112 && yverA yTt zMt yTb zC_X12_find yc_112 yh_112 yh_112)) = true := by decide +kernel
set_option maxRecDepth 100000 in
theorem yv_118 : (yrkB yc_118 && (yver0 yTt zMt yTb 2 zC_X12_loadTold yc_118 yh_118 && yverA yTt zMt yTb zC_X12_loadTold yc_118 yh_118 yh_118)) = true := by decide +kernel
set_option maxRecDepth 100000 in
theorem yv_119 : (yrkB yc_119 && (yver0 yTt zMt yTb 2 zC_X12_keep yc_119 yh_119 && yverA yTt zMt yTb zC_X12_keep yc_119 yh_119 yh_119)) = true := by decide +kernel
set_option maxRecDepth 100000 in
theorem yv_121 : (yrkB yc_121 && (yver0 yTt zMt yTb 2 zC_X12_fault yc_121 yh_121 && yverA yTt zMt yTb zC_X12_fault yc_121 yh_121 yh_121)) = true := by decide +kernel
set_option maxRecDepth 100000 in
theorem yv_122 : (yrkB yc_122 && (yver0 yTt zMt yTb 2 zC_X12_thing yc_122 yh_122 && yverA yTt zMt yTb zC_X12_thing yc_122 yh_122 yh_122)) = true := by decide +kernel
set_option maxRecDepth 100000 in
theorem yv_123 : (yrkB yc_123 && (yver0 yTt zMt yTb 2 zC_X12_feast yc_123 yh_123 && yverA yTt zMt yTb zC_X12_feast yc_123 yh_123 yh_123)) = true := by decide +kernel
set_option maxRecDepth 100000 in
theorem yv_124 : (yrkB yc_124 && (yver0 yTt zMt yTb 2 zC_X12_load yc_124 yh_124 && yverA yTt zMt yTb zC_X12_load yc_124 yh_124 yh_124)) = true := by decide +kernel

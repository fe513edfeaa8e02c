/-! Each contract looked through. -/
set_option maxRecDepth 100000 in
theorem yv_99 : (yrkB yc_99 && (yver0 yTt zMt yTb 1 zC_X12_isOwn yc_99 yh_99 && yverA yTt zMt yTb zC_X12_isOwn yc_99 yh_99 yh_99)) = true := by decide +kernel
set_option maxRecDepth 100000 in
theorem yv_100 : (yrkB yc_100 && (yver0 yTt zMt yTb 1 zC_X12_isName yc_100 yh_100 && yverA yTt zMt yTb zC_X12_isName yc_100 yh_100 yh_100)) = true := by decide +kernel
set_option maxRecDepth 100000 in
theorem yv_101 : (yrkB yc_101 && (yver0 yTt zMt yTb 5 zC_X12_find yc_101 yh_101 && yverA yTt zMt yTb zC_X12_find yc_101 yh_101 yh_101)) = true := by decide +kernel
set_option maxRecDepth 100000 in
theorem yv_102 : (yrkB yc_102 && (yver0 yTt zMt yTb 5 zC_X12_find yc_102 yh_102 && yverA yTt zMt yTb zC_X12_find yc_102 yh_102 yh_102)) = true := by decide +kernel
set_option maxRecDepth 100000 in
theorem yv_103 : (yrkB yc_103 && (yver0 yTt zMt yTb 5 zC_X12_find yc_103 yh_103 && yverA yTt zMt yTb zC_X12_find yc_103 yh_103 yh_103)) = true := by decide +kernel
set_option maxRecDepth 100000 in
theorem yv_105 : (yrkB yc_105 && (yver0 yTt zMt yTb 1 zC_X12_tight yc_105 yh_105 && yverA yTt zMt yTb zC_X12_tight yc_105 yh_105 yh_105)) = true := by decide +kernel
set_option maxRecDepth 100000 in
theorem yv_106 : (yrkB yc_106 && (yver0 yTt zMt yTb 5 zC_X12_find yc_106 yh_106 && yverA yTt zMt yTb zC_X12_find yc_106 yh_106 yh_106)) = true := by decide +kernel
set_option maxRecDepth 100000 in
theorem yv_108 : (yrkB yc_108 && (yver0 yTt zMt yTb 2 zC_X12_hasRelation yc_108 yh_108 && yverA yTt zMt yTb zC_X12_hasRelation yc_108 yh_108 yh_108)) = true := by decide +kernel
set_option maxRecDepth 100000 in
theorem yv_112 : (yrkB yc_112 && (yver0 yTt zMt yTb 5 zC_X12_find yc_112 yh_112 && yverA yTt zMt yTb zC_X12_find yc_112 yh_112 yh_112)) = true := by decide +kernel
set_option maxRecDepth 100000 in
theorem yv_114 : (yrkB yc_114 && (yver0 yTt zMt yTb 5 zC_X12_find yc_114 yh_114 && yverA yTt zMt yTb zC_X12_find yc_114 yh_114 yh_114)) = true := by decide +kernel
set_option maxRecDepth 100000 in
theorem yv_115 : (yrkB yc_115 && (yver0 yTt zMt yTb 5 zC_X12_find yc_115 yh_115 && yverA yTt zMt yTb zC_X12_find yc_115 yh_115 yh_115)) = true := by decide +kernel
set_option maxRecDepth 100000 in
theorem yv_122 : (yrkB yc_122 && (yver0 yTt zMt yTb 2 zC_X12_loadTold yc_122 yh_122 && yverA yTt zMt yTb zC_X12_loadTold yc_122 yh_122 yh_122)) = true := by decide +kernel
set_option maxRecDepth 100000 in
theorem yv_123 : (yrkB yc_123 && (yver0 yTt zMt yTb 2 zC_X12_keep yc_123 yh_123 && yverA yTt zMt yTb zC_X12_keep yc_123 yh_123 yh_123)) = true := by decide +kernel
set_option maxRecDepth 100000 in
theorem yv_125 : (yrkB yc_125 && (yver0 yTt zMt yTb 2 zC_X12_fault yc_125 yh_125 && yverA yTt zMt yTb zC_X12_fault yc_125 yh_125 yh_125)) = true := by decide +kernel
set_option maxRecDepth 100000 in
theorem yv_126 : (yrkB yc_126 && (yver0 yTt zMt yTb 2 zC_X12_thing yc_126 yh_126 && yverA yTt zMt yTb zC_X12_thing yc_126 yh_126 yh_126)) = true := by decide +kernel

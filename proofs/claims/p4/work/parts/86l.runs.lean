/-! Each contract looked through. -/
set_option maxRecDepth 100000 in
theorem yv_99 : (yrkB yc_99 && (yver0 yTt zMt yTb 1 zC_X12_isName yc_99 yh_99 && yverA yTt zMt yTb zC_X12_isName yc_99 yh_99 yh_99)) = true := by decide +kernel
set_option maxRecDepth 100000 in
theorem yv_100 : (yrkB yc_100 && (yver0 yTt zMt yTb 5 zC_X12_find yc_100 yh_100 && yverA yTt zMt yTb zC_X12_find yc_100 yh_100 yh_100)) = true := by decide +kernel
set_option maxRecDepth 100000 in
theorem yv_101 : (yrkB yc_101 && (yver0 yTt zMt yTb 5 zC_X12_find yc_101 yh_101 && yverA yTt zMt yTb zC_X12_find yc_101 yh_101 yh_101)) = true := by decide +kernel
set_option maxRecDepth 100000 in
theorem yv_102 : (yrkB yc_102 && (yver0 yTt zMt yTb 5 zC_X12_find yc_102 yh_102 && yverA yTt zMt yTb zC_X12_find yc_102 yh_102 yh_102)) = true := by decide +kernel
set_option maxRecDepth 100000 in
theorem yv_104 : (yrkB yc_104 && (yver0 yTt zMt yTb 1 zC_X12_tight yc_104 yh_104 && yverA yTt zMt yTb zC_X12_tight yc_104 yh_104 yh_104)) = true := by decide +kernel
set_option maxRecDepth 100000 in
theorem yv_105 : (yrkB yc_105 && (yver0 yTt zMt yTb 5 zC_X12_find yc_105 yh_105 && yverA yTt zMt yTb zC_X12_find yc_105 yh_105 yh_105)) = true := by decide +kernel
set_option maxRecDepth 100000 in
theorem yv_107 : (yrkB yc_107 && (yver0 yTt zMt yTb 2 zC_X12_hasRelation yc_107 yh_107 && yverA yTt zMt yTb zC_X12_hasRelation yc_107 yh_107 yh_107)) = true := by decide +kernel
set_option maxRecDepth 100000 in
theorem yv_111 : (yrkB yc_111 && (yver0 yTt zMt yTb 5 zC_X12_find yc_111 yh_111 && yverA yTt zMt yTb zC_X12_find yc_111 yh_111 yh_111)) = true := by decide +kernel
set_option maxRecDepth 100000 in
theorem yv_113 : (yrkB yc_113 && (yver0 yTt zMt yTb 5 zC_X12_find yc_113 yh_113 && yverA yTt zMt yTb zC_X12_find yc_113 yh_113 yh_113)) = true := by decide +kernel
set_option maxRecDepth 100000 in
theorem yv_114 : (yrkB yc_114 && (yver0 yTt zMt yTb 5 zC_X12_find yc_114 yh_114 && yverA yTt zMt yTb zC_X12_find yc_114 yh_114 yh_114)) = true := by decide +kernel
set_option maxRecDepth 100000 in
theorem yv_121 : (yrkB yc_121 && (yver0 yTt zMt yTb 2 zC_X12_loadTold yc_121 yh_121 && yverA yTt zMt yTb zC_X12_loadTold yc_121 yh_121 yh_121)) = true := by decide +kernel
set_option maxRecDepth 100000 in
theorem yv_122 : (yrkB yc_122 && (yver0 yTt zMt yTb 2 zC_X12_keep yc_122 yh_122 && yverA yTt zMt yTb zC_X12_keep yc_122 yh_122 yh_122)) = true := by decide +kernel
set_option maxRecDepth 100000 in
theorem yv_124 : (yrkB yc_124 && (yver0 yTt zMt yTb 2 zC_X12_thing yc_124 yh_124 && yverA yTt zMt yTb zC_X12_thing yc_124 yh_124 yh_124)) = true := by decide +kernel
set_option maxRecDepth 100000 in
theorem yv_125 : (yrkB yc_125 && (yver0 yTt zMt yTb 2 zC_X12_feast yc_125 yh_125 && yverA yTt zMt yTb zC_X12_feast yc_125 yh_125 yh_125)) = true := by decide +kernel
set_option maxRecDepth 100000 in
theorem yv_126 : (yrkB yc_126 && (yver0 yTt zMt yTb 2 zC_X12_load yc_126 yh_126 && yverA yTt zMt yTb zC_X12_load yc_126 yh_126 yh_126)) = true := by decide +kernel

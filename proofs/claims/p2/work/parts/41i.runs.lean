/-! Each contract looked through. -/
set_option maxRecDepth 100000 in
theorem yv_104 : (yrkB yc_104 && (yver0 yTt zMt yTb 5 zC_X12_find yc_104 yh_104 && yverA yTt zMt yTb zC_X12_find yc_104 yh_104 yh_104)) = true := by decide +kernel
set_option maxRecDepth 100000 in
theorem yv_105 : (yrkB yc_105 && (yver0 yTt zMt yTb 5 zC_X12_find yc_105 yh_105 && yverA yTt zMt yTb zC_X12_find yc_105 yh_105 yh_105)) = true := by decide +kernel
set_option maxRecDepth 100000 in
theorem yv_106 : (yrkB yc_106 && (yver0 yTt zMt yTb 4 zC_X12_oldName yc_106 yh_106 && yverA yTt zMt yTb zC_X12_oldName yc_106 yh_106 yh_106)) = true := by decide +kernel
set_option maxRecDepth 100000 in
theorem yv_108 : (yrkB yc_108 && (yver0 yTt zMt yTb 2 zC_X12_readSets yc_108 yh_108 && yverA yTt zMt yTb zC_X12_readSets yc_108 yh_108 yh_108)) = true := by decide +kernel
set_option maxRecDepth 100000 in
theorem yv_109 : (yrkB yc_109 && (yver0 yTt zMt yTb 1 zC_X12_readLine yc_109 yh_109 && yverA yTt zMt yTb zC_X12_readLine yc_109 yh_109 yh_109)) = true := by decide +kernel
set_option maxRecDepth 100000 in
theorem yv_110 : (yrkB yc_110 && (yver0 yTt zMt yTb 1 zC_X12_readAll yc_110 yh_110 && yverA yTt zMt yTb zC_X12_readAll yc_110 yh_110 yh_110)) = true := by decide +kernel
set_option maxRecDepth 100000 in
theorem yv_111 : (yrkB yc_111 && (yver0 yTt zMt yTb 2 zC_X12_loadTold yc_111 yh_111 && yverA yTt zMt yTb zC_X12_loadTold yc_111 yh_111 yh_111)) = true := by decide +kernel
set_option maxRecDepth 100000 in
theorem yv_112 : (yrkB yc_112 && (yver0 yTt zMt yTb 2 zC_X12_keep yc_112 yh_112 && yverA yTt zMt yTb zC_X12_keep yc_112 yh_112 yh_112)) = true := by decide +kernel
set_option maxRecDepth 100000 in
theorem yv_113 : (yrkB yc_113 && (yver0 yTt zMt yTb 2 zC_X12_land yc_113 yh_113 && yverA yTt zMt yTb zC_X12_land yc_113 yh_113 yh_113)) = true := by decide +kernel
set_option maxRecDepth 100000 in
theorem yv_114 : (yrkB yc_114 && (yver0 yTt zMt yTb 2 zC_X12_fault yc_114 yh_114 && yverA yTt zMt yTb zC_X12_fault yc_114 yh_114 yh_114)) = true := by decide +kernel
set_option maxRecDepth 100000 in
theorem yv_115 : (yrkB yc_115 && (yver0 yTt zMt yTb 2 zC_X12_thing yc_115 yh_115 && yverA yTt zMt yTb zC_X12_thing yc_115 yh_115 yh_115)) = true := by decide +kernel
set_option maxRecDepth 100000 in
theorem yv_116 : (yrkB yc_116 && (yver0 yTt zMt yTb 2 zC_X12_feast yc_116 yh_116 && yverA yTt zMt yTb zC_X12_feast yc_116 yh_116 yh_116)) = true := by decide +kernel
set_option maxRecDepth 100000 in
theorem yv_117 : (yrkB yc_117 && (yver0 yTt zMt yTb 2 zC_X12_load yc_117 yh_117 && yverA yTt zMt yTb zC_X12_load yc_117 yh_117 yh_117)) = true := by decide +kernel

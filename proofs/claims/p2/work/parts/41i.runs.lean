/-! Each contract looked through. -/
set_option maxRecDepth 100000 in
theorem yv_97 : (yrkB yc_97 && (yver0 yTt zMt yTb 1 zC_X12_isName yc_97 yh_97 && yverA yTt zMt yTb zC_X12_isName yc_97 yh_97 yh_97)) = true := by decide +kernel
set_option maxRecDepth 100000 in
theorem yv_98 : (yrkB yc_98 && (yver0 yTt zMt yTb 5 zC_X12_find yc_98 yh_98 && yverA yTt zMt yTb zC_X12_find yc_98 yh_98 yh_98)) = true := by decide +kernel
set_option maxRecDepth 100000 in
theorem yv_100 : (yrkB yc_100 && (yver0 yTt zMt yTb 5 zC_X12_find yc_100 yh_100 && yverA yTt zMt yTb zC_X12_find yc_100 yh_100 yh_100)) = true := by decide +kernel
set_option maxRecDepth 100000 in
theorem yv_101 : (yrkB yc_101 && (yver0 yTt zMt yTb 5 zC_X12_find yc_101 yh_101 && yverA yTt zMt yTb zC_X12_find yc_101 yh_101 yh_101)) = true := by decide +kernel
set_option maxRecDepth 100000 in
theorem yv_103 : (yrkB yc_103 && (yver0 yTt zMt yTb 5 zC_X12_find yc_103 yh_103 && yverA yTt zMt yTb zC_X12_find yc_103 yh_103 yh_103)) = true := by decide +kernel
set_option maxRecDepth 100000 in
theorem yv_105 : (yrkB yc_105 && (yver0 yTt zMt yTb 2 zC_X12_readSets yc_105 yh_105 && yverA yTt zMt yTb zC_X12_readSets yc_105 yh_105 yh_105)) = true := by decide +kernel
set_option maxRecDepth 100000 in
theorem yv_106 : (yrkB yc_106 && (yver0 yTt zMt yTb 5 zC_X12_find yc_106 yh_106 && yverA yTt zMt yTb zC_X12_find yc_106 yh_106 yh_106)) = true := by decide +kernel
set_option maxRecDepth 100000 in
theorem yv_107 : (yrkB yc_107 && (yver0 yTt zMt yTb 1 zC_X12_readLine yc_107 yh_107 && yverA yTt zMt yTb zC_X12_readLine yc_107 yh_107 yh_107)) = true := by decide +kernel
set_option maxRecDepth 100000 in
theorem yv_108 : (yrkB yc_108 && (yver0 yTt zMt yTb 1 zC_X12_readAll yc_108 yh_108 && yverA yTt zMt yTb zC_X12_readAll yc_108 yh_108 yh_108)) = true := by decide +kernel
set_option maxRecDepth 100000 in
theorem yv_109 : (yrkB yc_109 && (yver0 yTt zMt yTb 2 zC_X12_loadTold yc_109 yh_109 && yverA yTt zMt yTb zC_X12_loadTold yc_109 yh_109 yh_109)) = true := by decide +kernel
set_option maxRecDepth 100000 in
theorem yv_110 : (yrkB yc_110 && (yver0 yTt zMt yTb 2 zC_X12_keep yc_110 yh_110 && yverA yTt zMt yTb zC_X12_keep yc_110 yh_110 yh_110)) = true := by decide +kernel
set_option maxRecDepth 100000 in
theorem yv_111 : (yrkB yc_111 && (yver0 yTt zMt yTb 2 zC_X12_land yc_111 yh_111 && yverA yTt zMt yTb zC_X12_land yc_111 yh_111 yh_111)) = true := by decide +kernel

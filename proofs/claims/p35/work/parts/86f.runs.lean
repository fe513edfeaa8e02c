/-! Each contract looked through. -/
set_option maxRecDepth 100000 in
theorem yv_1 : (yrkB yc_1 && (yver0 yTt zMt yTb 6 zC_X9_cutNumber yc_1 yh_1 && yverA yTt zMt yTb zC_X9_cutNumber yc_1 yh_1 yh_1)) = true := by decide +kernel
set_option maxRecDepth 100000 in
theorem yv_2 : (yrkB yc_2 && (yver0 yTt zMt yTb 6 zC_X9_isWord yc_2 yh_2 && yverA yTt zMt yTb zC_X9_isWord yc_2 yh_2 yh_2)) = true := by decide +kernel
set_option maxRecDepth 100000 in
theorem yv_3 : (yrkB yc_3 && (yver0 yTt zMt yTb 4 zC_X9_wordKind yc_3 yh_3 && yverA yTt zMt yTb zC_X9_wordKind yc_3 yh_3 yh_3)) = true := by decide +kernel
set_option maxRecDepth 100000 in
theorem yv_4 : (yrkB yc_4 && (yver0 yTt zMt yTb 6 zC_X9_cutWord yc_4 yh_4 && yverA yTt zMt yTb zC_X9_cutWord yc_4 yh_4 yh_4)) = true := by decide +kernel
set_option maxRecDepth 100000 in
theorem yv_5 : (yrkB yc_5 && (yver0 yTt zMt yTb 4 zC_X9_cut yc_5 yh_5 && yverA yTt zMt yTb zC_X9_cut yc_5 yh_5 yh_5)) = true := by decide +kernel
set_option maxRecDepth 100000 in
theorem yv_6 : (yrkB yc_6 && (yver0 yTt zMt yTb 4 zC_J7_fill_53178 yc_6 yh_6 && yverA yTt zMt yTb zC_J7_fill_53178 yc_6 yh_6 yh_6)) = true := by decide +kernel
set_option maxRecDepth 100000 in
theorem yv_7 : (yrkB yc_7 && (yver0 yTt zMt yTb 4 zC_J7_fill_53178 yc_7 yh_7 && yverA yTt zMt yTb zC_J7_fill_53178 yc_7 yh_7 yh_7)) = true := by decide +kernel
set_option maxRecDepth 100000 in
theorem yv_8 : (yrkB yc_8 && (yver0 yTt zMt yTb 4 zC_J7_fill_53178 yc_8 yh_8 && yverA yTt zMt yTb zC_J7_fill_53178 yc_8 yh_8 yh_8)) = true := by decide +kernel
set_option maxRecDepth 100000 in
theorem yv_9 : (yrkB yc_9 && (yver0 yTt zMt yTb 4 zC_J7_fill_53178 yc_9 yh_9 && yverA yTt zMt yTb zC_J7_fill_53178 yc_9 yh_9 yh_9)) = true := by decide +kernel
set_option maxRecDepth 100000 in
theorem yv_10 : (yrkB yc_10 && (yver0 yTt zMt yTb 4 zC_J7_fill_53178 yc_10 yh_10 && yverA yTt zMt yTb zC_J7_fill_53178 yc_10 yh_10 yh_10)) = true := by decide +kernel
set_option maxRecDepth 100000 in
theorem yv_11 : (yrkB yc_11 && (yver0 yTt zMt yTb 4 zC_J7_fill_53178 yc_11 yh_11 && yverA yTt zMt yTb zC_J7_fill_53178 yc_11 yh_11 yh_11)) = true := by decide +kernel
set_option maxRecDepth 100000 in
theorem yv_12 : (yrkB yc_12 && (yver0 yTt zMt yTb 4 zC_J7_fill_53178 yc_12 yh_12 && yverA yTt zMt yTb zC_J7_fill_53178 yc_12 yh_12 yh_12)) = true := by decide +kernel
set_option maxRecDepth 100000 in
theorem yv_13 : (yrkB yc_13 && (yver0 yTt zMt yTb 3 zC_X5_find yc_13 yh_13 && yverA yTt zMt yTb zC_X5_find yc_13 yh_13 yh_13)) = true := by decide +kernel
set_option maxRecDepth 100000 in
theorem yv_14 : (yrkB yc_14 && (yver0 yTt zMt yTb 3 zC_X5_find yc_14 yh_14 && yverA yTt zMt yTb zC_X5_find yc_14 yh_14 yh_14)) = true := by decide +kernel
set_option maxRecDepth 100000 in
theorem yv_15 : (yrkB yc_15 && (yver0 yTt zMt yTb 6 zC_X5_readLevel yc_15 yh_15 && yverA yTt zMt yTb zC_X5_readLevel yc_15 yh_15 yh_15)) = true := by decide +kernel

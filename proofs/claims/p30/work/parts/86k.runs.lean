/-! Each contract looked through. -/
set_option maxRecDepth 100000 in
theorem yv_78 : (yrkB yc_78 && (yver0 yTt zMt yTb 3 zC_X7_takeTurns yc_78 yh_78 && yverA yTt zMt yTb zC_X7_takeTurns yc_78 yh_78 yh_78)) = true := by decide +kernel
set_option maxRecDepth 100000 in
theorem yv_79 : (yrkB yc_79 && (yver0 yTt zMt yTb 3 zC_X7_pass yc_79 yh_79 && yverA yTt zMt yTb zC_X7_pass yc_79 yh_79 yh_79)) = true := by decide +kernel
set_option maxRecDepth 100000 in
theorem yv_80 : (yrkB yc_80 && (yver0 yTt zMt yTb 4 zC_X2_asKnown yc_80 yh_80 && yverA yTt zMt yTb zC_X2_asKnown yc_80 yh_80 yh_80)) = true := by decide +kernel
set_option maxRecDepth 100000 in
theorem yv_81 : (yrkB yc_81 && (yver0 yTt zMt yTb 2 zC_X7_nextCalendar yc_81 yh_81 && yverA yTt zMt yTb zC_X7_nextCalendar yc_81 yh_81 yh_81)) = true := by decide +kernel
set_option maxRecDepth 100000 in
theorem yv_82 : (yrkB yc_82 && (yver0 yTt zMt yTb 4 zC_J7_fill_53178 yc_82 yh_82 && yverA yTt zMt yTb zC_J7_fill_53178 yc_82 yh_82 yh_82)) = true := by decide +kernel
set_option maxRecDepth 100000 in
theorem yv_83 : (yrkB yc_83 && (yver0 yTt zMt yTb 4 zC_X2_fitting yc_83 yh_83 && yverA yTt zMt yTb zC_X2_fitting yc_83 yh_83 yh_83)) = true := by decide +kernel
set_option maxRecDepth 100000 in
theorem yv_84 : (yrkB yc_84 && (yver0 yTt zMt yTb 3 zC_X2_noteFit yc_84 yh_84 && yverA yTt zMt yTb zC_X2_noteFit yc_84 yh_84 yh_84)) = true := by decide +kernel
set_option maxRecDepth 100000 in
theorem yv_85 : (yrkB yc_85 && (yver0 yTt zMt yTb 8 zC_X2_sift yc_85 yh_85 && yverA yTt zMt yTb zC_X2_sift yc_85 yh_85 yh_85)) = true := by decide +kernel
set_option maxRecDepth 100000 in
theorem yv_86 : (yrkB yc_86 && (yver0 yTt zMt yTb 4 zC_X2_leftAtMost yc_86 yh_86 && yverA yTt zMt yTb zC_X2_leftAtMost yc_86 yh_86 yh_86)) = true := by decide +kernel
set_option maxRecDepth 100000 in
theorem yv_87 : (yrkB yc_87 && (yver0 yTt zMt yTb 4 zC_X2_tellingMost yc_87 yh_87 && yverA yTt zMt yTb zC_X2_tellingMost yc_87 yh_87 yh_87)) = true := by decide +kernel
set_option maxRecDepth 100000 in
theorem yv_88 : (yrkB yc_88 && (yver0 yTt zMt yTb 6 zC_X11_ask yc_88 yh_88 && yverA yTt zMt yTb zC_X11_ask yc_88 yh_88 yh_88)) = true := by decide +kernel
set_option maxRecDepth 100000 in
theorem yv_89 : (yrkB yc_89 && (yver0 yTt zMt yTb 3 zC_X1_save yc_89 yh_89 && yverA yTt zMt yTb zC_X1_save yc_89 yh_89 yh_89)) = true := by decide +kernel
set_option maxRecDepth 100000 in
theorem yv_90 : (yrkB yc_90 && (yver0 yTt zMt yTb 2 zC_X11_image yc_90 yh_90 && yverA yTt zMt yTb zC_X11_image yc_90 yh_90 yh_90)) = true := by decide +kernel
set_option maxRecDepth 100000 in
theorem yv_91 : (yrkB yc_91 && (yver0 yTt zMt yTb 3 zC_X1_load yc_91 yh_91 && yverA yTt zMt yTb zC_X1_load yc_91 yh_91 yh_91)) = true := by decide +kernel

/-! Each contract looked through. -/
set_option maxRecDepth 100000 in
theorem yv_83 : (yrkB yc_83 && (yver0 yTt zMt yTb 3 zC_X2_noteFit yc_83 yh_83 && yverA yTt zMt yTb zC_X2_noteFit yc_83 yh_83 yh_83)) = true := by decide +kernel
set_option maxRecDepth 100000 in
theorem yv_84 : (yrkB yc_84 && (yver0 yTt zMt yTb 8 zC_X2_sift yc_84 yh_84 && yverA yTt zMt yTb zC_X2_sift yc_84 yh_84 yh_84)) = true := by decide +kernel
set_option maxRecDepth 100000 in
theorem yv_85 : (yrkB yc_85 && (yver0 yTt zMt yTb 4 zC_X2_leftAtMost yc_85 yh_85 && yverA yTt zMt yTb zC_X2_leftAtMost yc_85 yh_85 yh_85)) = true := by decide +kernel
set_option maxRecDepth 100000 in
theorem yv_86 : (yrkB yc_86 && (yver0 yTt zMt yTb 4 zC_X2_tellingMost yc_86 yh_86 && yverA yTt zMt yTb zC_X2_tellingMost yc_86 yh_86 yh_86)) = true := by decide +kernel
set_option maxRecDepth 100000 in
theorem yv_87 : (yrkB yc_87 && (yver0 yTt zMt yTb 6 zC_X11_ask yc_87 yh_87 && yverA yTt zMt yTb zC_X11_ask yc_87 yh_87 yh_87)) = true := by decide +kernel
set_option maxRecDepth 100000 in
theorem yv_88 : (yrkB yc_88 && (yver0 yTt zMt yTb 3 zC_X1_save yc_88 yh_88 && yverA yTt zMt yTb zC_X1_save yc_88 yh_88 yh_88)) = true := by decide +kernel
set_option maxRecDepth 100000 in
theorem yv_89 : (yrkB yc_89 && (yver0 yTt zMt yTb 2 zC_X11_image yc_89 yh_89 && yverA yTt zMt yTb zC_X11_image yc_89 yh_89 yh_89)) = true := by decide +kernel
set_option maxRecDepth 100000 in
theorem yv_90 : (yrkB yc_90 && (yver0 yTt zMt yTb 3 zC_X1_load yc_90 yh_90 && yverA yTt zMt yTb zC_X1_load yc_90 yh_90 yh_90)) = true := by decide +kernel
set_option maxRecDepth 100000 in
theorem yv_91 : (yrkB yc_91 && (yver0 yTt zMt yTb 2 zC_X11_back yc_91 yh_91 && yverA yTt zMt yTb zC_X11_back yc_91 yh_91 yh_91)) = true := by decide +kernel
set_option maxRecDepth 100000 in
theorem yv_92 : (yrkB yc_92 && (yver0 yTt zMt yTb 2 zC_X11_about yc_92 yh_92 && yverA yTt zMt yTb zC_X11_about yc_92 yh_92 yh_92)) = true := by decide +kernel
set_option maxRecDepth 100000 in
theorem yv_94 : (yrkB yc_94 && (yver0 yTt zMt yTb 3 zC_X12_token yc_94 yh_94 && yverA yTt zMt yTb zC_X12_token yc_94 yh_94 yh_94)) = true := by decide +kernel
set_option maxRecDepth 100000 in
theorem yv_95 : (yrkB yc_95 && (yver0 yTt zMt yTb 1 zC_X12_isOwn yc_95 yh_95 && yverA yTt zMt yTb zC_X12_isOwn yc_95 yh_95 yh_95)) = true := by decide +kernel
set_option maxRecDepth 100000 in
theorem yv_96 : (yrkB yc_96 && (yver0 yTt zMt yTb 1 zC_X12_isName yc_96 yh_96 && yverA yTt zMt yTb zC_X12_isName yc_96 yh_96 yh_96)) = true := by decide +kernel
set_option maxRecDepth 100000 in
theorem yv_97 : (yrkB yc_97 && (yver0 yTt zMt yTb 5 zC_X12_find yc_97 yh_97 && yverA yTt zMt yTb zC_X12_find yc_97 yh_97 yh_97)) = true := by decide +kernel
set_option maxRecDepth 100000 in
theorem yv_98 : (yrkB yc_98 && (yver0 yTt zMt yTb 5 zC_X12_find yc_98 yh_98 && yverA yTt zMt yTb zC_X12_find yc_98 yh_98 yh_98)) = true := by decide +kernel

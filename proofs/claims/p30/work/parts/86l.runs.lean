/-! Each contract looked through. -/
set_option maxRecDepth 100000 in
theorem yv_92 : (yrkB yc_92 && (yver0 yTt zMt yTb 2 zC_X11_back yc_92 yh_92 && yverA yTt zMt yTb zC_X11_back yc_92 yh_92 yh_92)) = true := by decide +kernel
set_option maxRecDepth 100000 in
theorem yv_93 : (yrkB yc_93 && (yver0 yTt zMt yTb 2 zC_X11_about yc_93 yh_93 && yverA yTt zMt yTb zC_X11_about yc_93 yh_93 yh_93)) = true := by decide +kernel
set_option maxRecDepth 100000 in
theorem yv_95 : (yrkB yc_95 && (yver0 yTt zMt yTb 3 zC_X12_token yc_95 yh_95 && yverA yTt zMt yTb zC_X12_token yc_95 yh_95 yh_95)) = true := by decide +kernel
set_option maxRecDepth 100000 in
theorem yv_96 : (yrkB yc_96 && (yver0 yTt zMt yTb 1 zC_X12_isOwn yc_96 yh_96 && yverA yTt zMt yTb zC_X12_isOwn yc_96 yh_96 yh_96)) = true := by decide +kernel
set_option maxRecDepth 100000 in
theorem yv_97 : (yrkB yc_97 && (yver0 yTt zMt yTb 1 zC_X12_isName yc_97 yh_97 && yverA yTt zMt yTb zC_X12_isName yc_97 yh_97 yh_97)) = true := by decide +kernel
set_option maxRecDepth 100000 in
theorem yv_98 : (yrkB yc_98 && (yver0 yTt zMt yTb 5 zC_X12_find yc_98 yh_98 && yverA yTt zMt yTb zC_X12_find yc_98 yh_98 yh_98)) = true := by decide +kernel
set_option maxRecDepth 100000 in
theorem yv_99 : (yrkB yc_99 && (yver0 yTt zMt yTb 5 zC_X12_find yc_99 yh_99 && yverA yTt zMt yTb zC_X12_find yc_99 yh_99 yh_99)) = true := by decide +kernel
set_option maxRecDepth 100000 in
theorem yv_100 : (yrkB yc_100 && (yver0 yTt zMt yTb 5 zC_X12_find yc_100 yh_100 && yverA yTt zMt yTb zC_X12_find yc_100 yh_100 yh_100)) = true := by decide +kernel
set_option maxRecDepth 100000 in
theorem yv_102 : (yrkB yc_102 && (yver0 yTt zMt yTb 1 zC_X12_tight yc_102 yh_102 && yverA yTt zMt yTb zC_X12_tight yc_102 yh_102 yh_102)) = true := by decide +kernel
set_option maxRecDepth 100000 in
theorem yv_103 : (yrkB yc_103 && (yver0 yTt zMt yTb 5 zC_X12_find yc_103 yh_103 && yverA yTt zMt yTb zC_X12_find yc_103 yh_103 yh_103)) = true := by decide +kernel
set_option maxRecDepth 100000 in
theorem yv_105 : (yrkB yc_105 && (yver0 yTt zMt yTb 2 zC_X12_hasRelation yc_105 yh_105 && yverA yTt zMt yTb zC_X12_hasRelation yc_105 yh_105 yh_105)) = true := by decide +kernel
set_option maxRecDepth 100000 in
theorem yv_109 : (yrkB yc_109 && (yver0 yTt zMt yTb 5 zC_X12_find yc_109 yh_109 && yverA yTt zMt yTb zC_X12_find yc_109 yh_109 yh_109)) = true := by decide +kernel
set_option maxRecDepth 100000 in
theorem yv_111 : (yrkB yc_111 && (yver0 yTt zMt yTb 5 zC_X12_find yc_111 yh_111 && yverA yTt zMt yTb zC_X12_find yc_111 yh_111 yh_111)) = true := by decide +kernel
set_option maxRecDepth 100000 in
theorem yv_112 : (yrkB yc_112 && (yver0 yTt zMt yTb 5 zC_X12_find yc_112 yh_112 && yverA yTt zMt yTb zC_X12_find yc_112 yh_112 yh_112)) = true := by decide +kernel

/-! Each contract looked through. -/
set_option maxRecDepth 100000 in
theorem yv_93 : (yrkB yc_93 && (yver0 yTt zMt yTb 6 zC_X12_feed yc_93 yh_93 && yverA yTt zMt yTb zC_X12_feed yc_93 yh_93 yh_93)) = true := by decide +kernel
set_option maxRecDepth 100000 in
theorem yv_100 : (yrkB yc_100 && (yver0 yTt zMt yTb 4 zC_X12_oldName yc_100 yh_100 && yverA yTt zMt yTb zC_X12_oldName yc_100 yh_100 yh_100)) = true := by decide +kernel
set_option maxRecDepth 100000 in
theorem yv_103 : (yrkB yc_103 && (yver0 yTt zMt yTb 3 zC_X12_unit yc_103 yh_103 && yverA yTt zMt yTb zC_X12_unit yc_103 yh_103 yh_103)) = true := by decide +kernel
set_option maxRecDepth 100000 in
theorem yv_105 : (yrkB yc_105 && (yver0 yTt zMt yTb 2 zC_X12_close yc_105 yh_105 && yverA yTt zMt yTb zC_X12_close yc_105 yh_105 yh_105)) = true := by decide +kernel
set_option maxRecDepth 100000 in
theorem yv_106 : (yrkB yc_106 && (yver0 yTt zMt yTb 3 zC_X12_hasBracket yc_106 yh_106 && yverA yTt zMt yTb zC_X12_hasBracket yc_106 yh_106 yh_106)) = true := by decide +kernel
set_option maxRecDepth 100000 in
theorem yv_107 : (yrkB yc_107 && (yver0 yTt zMt yTb 2 zC_X12_close yc_107 yh_107 && yverA yTt zMt yTb zC_X12_close yc_107 yh_107 yh_107)) = true := by decide +kernel
set_option maxRecDepth 100000 in
theorem yv_109 : (yrkB yc_109 && (yver0 yTt zMt yTb 4 zC_X12_formula yc_109 yh_109 && yverA yTt zMt yTb zC_X12_formula yc_109 yh_109 yh_109)) = true := by decide +kernel

/-! Each contract looked through. -/
set_option maxRecDepth 100000 in
theorem yv_111 : (yrkB yc_111 && (yver0 yTt zMt yTb 2 zC_X12_close yc_111 yh_111 && yverA yTt zMt yTb zC_X12_close yc_111 yh_111 yh_111)) = true := by decide +kernel
set_option maxRecDepth 100000 in
theorem yv_113 : (yrkB yc_113 && (yver0 yTt zMt yTb 4 zC_X12_formula yc_113 yh_113 && yverA yTt zMt yTb zC_X12_formula yc_113 yh_113 yh_113)) = true := by decide +kernel
set_option maxRecDepth 100000 in
theorem yv_116 : (yrkB yc_116 && (yver0 yTt zMt yTb 4 zC_X12_oldName yc_116 yh_116 && yverA yTt zMt yTb zC_X12_oldName yc_116 yh_116 yh_116)) = true := by decide +kernel
set_option maxRecDepth 100000 in
theorem yv_117 : (yrkB yc_117 && (yver0 yTt zMt yTb 4 zC_X12_formula yc_117 yh_117 && yverA yTt zMt yTb zC_X12_formula yc_117 yh_117 yh_117)) = true := by decide +kernel
set_option maxRecDepth 100000 in
theorem yv_118 : (yrkB yc_118 && (yver0 yTt zMt yTb 2 zC_X12_readSets yc_118 yh_118 && yverA yTt zMt yTb zC_X12_readSets yc_118 yh_118 yh_118)) = true := by decide +kernel
set_option maxRecDepth 100000 in
theorem yv_119 : (yrkB yc_119 && (yver0 yTt zMt yTb 1 zC_X12_readLine yc_119 yh_119 && yverA yTt zMt yTb zC_X12_readLine yc_119 yh_119 yh_119)) = true := by decide +kernel

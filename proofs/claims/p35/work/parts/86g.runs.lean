/-! Each contract looked through. -/
set_option maxRecDepth 100000 in
theorem yv_17 : (yrkB yc_17 && (yver0 yTt zMt yTb 3 zC_X5_find yc_17 yh_17 && yverA yTt zMt yTb zC_X5_find yc_17 yh_17 yh_17)) = true := by decide +kernel
set_option maxRecDepth 100000 in
theorem yv_19 : (yrkB yc_19 && (yver0 yTt zMt yTb 3 zC_X5_find yc_19 yh_19 && yverA yTt zMt yTb zC_X5_find yc_19 yh_19 yh_19)) = true := by decide +kernel
set_option maxRecDepth 100000 in
theorem yv_20 : (yrkB yc_20 && (yver0 yTt zMt yTb 3 zC_X5_find yc_20 yh_20 && yverA yTt zMt yTb zC_X5_find yc_20 yh_20 yh_20)) = true := by decide +kernel
set_option maxRecDepth 100000 in
theorem yv_21 : (yrkB yc_21 && (yver0 yTt zMt yTb 4 zC_X5_readActor yc_21 yh_21 && yverA yTt zMt yTb zC_X5_readActor yc_21 yh_21 yh_21)) = true := by decide +kernel
set_option maxRecDepth 100000 in
theorem yv_25 : (yrkB yc_25 && (yver0 yTt zMt yTb 3 zC_X7_begin yc_25 yh_25 && yverA yTt zMt yTb zC_X7_begin yc_25 yh_25 yh_25)) = true := by decide +kernel
set_option maxRecDepth 100000 in
theorem yv_26 : (yrkB yc_26 && (yver0 yTt zMt yTb 3 zC_X1_save yc_26 yh_26 && yverA yTt zMt yTb zC_X1_save yc_26 yh_26 yh_26)) = true := by decide +kernel
set_option maxRecDepth 100000 in
theorem yv_27 : (yrkB yc_27 && (yver0 yTt zMt yTb 2 zC_X11_beginAnew yc_27 yh_27 && yverA yTt zMt yTb zC_X11_beginAnew yc_27 yh_27 yh_27)) = true := by decide +kernel
set_option maxRecDepth 100000 in
theorem yv_29 : (yrkB yc_29 && (yver0 yTt zMt yTb 3 zC_X5_readUnit yc_29 yh_29 && yverA yTt zMt yTb zC_X5_readUnit yc_29 yh_29 yh_29)) = true := by decide +kernel
set_option maxRecDepth 100000 in
theorem yv_30 : (yrkB yc_30 && (yver0 yTt zMt yTb 2 zC_X5_joint yc_30 yh_30 && yverA yTt zMt yTb zC_X5_joint yc_30 yh_30 yh_30)) = true := by decide +kernel
set_option maxRecDepth 100000 in
theorem yv_31 : (yrkB yc_31 && (yver0 yTt zMt yTb 2 zC_X11_thing yc_31 yh_31 && yverA yTt zMt yTb zC_X11_thing yc_31 yh_31 yh_31)) = true := by decide +kernel
set_option maxRecDepth 100000 in
theorem yv_32 : (yrkB yc_32 && (yver0 yTt zMt yTb 2 zC_X11_feast yc_32 yh_32 && yverA yTt zMt yTb zC_X11_feast yc_32 yh_32 yh_32)) = true := by decide +kernel
set_option maxRecDepth 100000 in
theorem yv_33 : (yrkB yc_33 && (yver0 yTt zMt yTb 9 zC_X7_value yc_33 yh_33 && yverA yTt zMt yTb zC_X7_value yc_33 yh_33 yh_33)) = true := by decide +kernel
set_option maxRecDepth 100000 in
theorem yv_34 : (yrkB yc_34 && (yver0 yTt zMt yTb 7 zC_X7_perform yc_34 yh_34 && yverA yTt zMt yTb zC_X7_perform yc_34 yh_34 yh_34)) = true := by decide +kernel
set_option maxRecDepth 100000 in
theorem yv_35 : (yrkB yc_35 && (yver0 yTt zMt yTb 2 zC_X11_deed yc_35 yh_35 && yverA yTt zMt yTb zC_X11_deed yc_35 yh_35 yh_35)) = true := by decide +kernel
set_option maxRecDepth 100000 in
theorem yv_36 : (yrkB yc_36 && (yver0 yTt zMt yTb 4 zC_X11_shift yc_36 yh_36 && yverA yTt zMt yTb zC_X11_shift yc_36 yh_36 yh_36)) = true := by decide +kernel

/-! Each contract looked through. -/
set_option maxRecDepth 100000 in
theorem yv_28 : (yrkB yc_28 && (yver0 yTt zMt yTb 2 zC_X5_joint yc_28 yh_28 && yverA yTt zMt yTb zC_X5_joint yc_28 yh_28 yh_28)) = true := by decide +kernel
set_option maxRecDepth 100000 in
theorem yv_29 : (yrkB yc_29 && (yver0 yTt zMt yTb 2 zC_X11_fault yc_29 yh_29 && yverA yTt zMt yTb zC_X11_fault yc_29 yh_29 yh_29)) = true := by decide +kernel
set_option maxRecDepth 100000 in
theorem yv_30 : (yrkB yc_30 && (yver0 yTt zMt yTb 2 zC_X11_thing yc_30 yh_30 && yverA yTt zMt yTb zC_X11_thing yc_30 yh_30 yh_30)) = true := by decide +kernel
set_option maxRecDepth 100000 in
theorem yv_31 : (yrkB yc_31 && (yver0 yTt zMt yTb 2 zC_X11_feast yc_31 yh_31 && yverA yTt zMt yTb zC_X11_feast yc_31 yh_31 yh_31)) = true := by decide +kernel
set_option maxRecDepth 100000 in
theorem yv_32 : (yrkB yc_32 && (yver0 yTt zMt yTb 9 zC_X7_value yc_32 yh_32 && yverA yTt zMt yTb zC_X7_value yc_32 yh_32 yh_32)) = true := by decide +kernel
set_option maxRecDepth 100000 in
theorem yv_33 : (yrkB yc_33 && (yver0 yTt zMt yTb 7 zC_X7_perform yc_33 yh_33 && yverA yTt zMt yTb zC_X7_perform yc_33 yh_33 yh_33)) = true := by decide +kernel
set_option maxRecDepth 100000 in
theorem yv_34 : (yrkB yc_34 && (yver0 yTt zMt yTb 2 zC_X11_deed yc_34 yh_34 && yverA yTt zMt yTb zC_X11_deed yc_34 yh_34 yh_34)) = true := by decide +kernel
set_option maxRecDepth 100000 in
theorem yv_35 : (yrkB yc_35 && (yver0 yTt zMt yTb 4 zC_X11_shift yc_35 yh_35 && yverA yTt zMt yTb zC_X11_shift yc_35 yh_35 yh_35)) = true := by decide +kernel
set_option maxRecDepth 100000 in
theorem yv_36 : (yrkB yc_36 && (yver0 yTt zMt yTb 1 zC_X11_leap yc_36 yh_36 && yverA yTt zMt yTb zC_X11_leap yc_36 yh_36 yh_36)) = true := by decide +kernel
set_option maxRecDepth 100000 in
theorem yv_37 : (yrkB yc_37 && (yver0 yTt zMt yTb 3 zC_X1_load yc_37 yh_37 && yverA yTt zMt yTb zC_X1_load yc_37 yh_37 yh_37)) = true := by decide +kernel
set_option maxRecDepth 100000 in
theorem yv_38 : (yrkB yc_38 && (yver0 yTt zMt yTb 1 zC_X11_undo yc_38 yh_38 && yverA yTt zMt yTb zC_X11_undo yc_38 yh_38 yh_38)) = true := by decide +kernel
set_option maxRecDepth 100000 in
theorem yv_39 : (yrkB yc_39 && (yver0 yTt zMt yTb 1 zC_X11_redo yc_39 yh_39 && yverA yTt zMt yTb zC_X11_redo yc_39 yh_39 yh_39)) = true := by decide +kernel
set_option maxRecDepth 100000 in
theorem yv_40 : (yrkB yc_40 && (yver0 yTt zMt yTb 3 zC_X11_crime yc_40 yh_40 && yverA yTt zMt yTb zC_X11_crime yc_40 yh_40 yh_40)) = true := by decide +kernel
set_option maxRecDepth 100000 in
theorem yv_41 : (yrkB yc_41 && (yver0 yTt zMt yTb 4 zC_X7_packed yc_41 yh_41 && yverA yTt zMt yTb zC_X7_packed yc_41 yh_41 yh_41)) = true := by decide +kernel

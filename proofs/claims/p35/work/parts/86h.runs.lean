/-! Each contract looked through. -/
set_option maxRecDepth 100000 in
theorem yv_37 : (yrkB yc_37 && (yver0 yTt zMt yTb 1 zC_X11_leap yc_37 yh_37 && yverA yTt zMt yTb zC_X11_leap yc_37 yh_37 yh_37)) = true := by decide +kernel
set_option maxRecDepth 100000 in
theorem yv_38 : (yrkB yc_38 && (yver0 yTt zMt yTb 3 zC_X1_load yc_38 yh_38 && yverA yTt zMt yTb zC_X1_load yc_38 yh_38 yh_38)) = true := by decide +kernel
set_option maxRecDepth 100000 in
theorem yv_39 : (yrkB yc_39 && (yver0 yTt zMt yTb 1 zC_X11_undo yc_39 yh_39 && yverA yTt zMt yTb zC_X11_undo yc_39 yh_39 yh_39)) = true := by decide +kernel
set_option maxRecDepth 100000 in
theorem yv_40 : (yrkB yc_40 && (yver0 yTt zMt yTb 1 zC_X11_redo yc_40 yh_40 && yverA yTt zMt yTb zC_X11_redo yc_40 yh_40 yh_40)) = true := by decide +kernel
set_option maxRecDepth 100000 in
theorem yv_41 : (yrkB yc_41 && (yver0 yTt zMt yTb 3 zC_X11_crime yc_41 yh_41 && yverA yTt zMt yTb zC_X11_crime yc_41 yh_41 yh_41)) = true := by decide +kernel
set_option maxRecDepth 100000 in
theorem yv_42 : (yrkB yc_42 && (yver0 yTt zMt yTb 4 zC_X7_packed yc_42 yh_42 && yverA yTt zMt yTb zC_X7_packed yc_42 yh_42 yh_42)) = true := by decide +kernel
set_option maxRecDepth 100000 in
theorem yv_43 : (yrkB yc_43 && (yver0 yTt zMt yTb 4 zC_J7_fill_53178 yc_43 yh_43 && yverA yTt zMt yTb zC_J7_fill_53178 yc_43 yh_43 yh_43)) = true := by decide +kernel
set_option maxRecDepth 100000 in
theorem yv_44 : (yrkB yc_44 && (yver0 yTt zMt yTb 6 zC_X7_unpack yc_44 yh_44 && yverA yTt zMt yTb zC_X7_unpack yc_44 yh_44 yh_44)) = true := by decide +kernel
set_option maxRecDepth 100000 in
theorem yv_45 : (yrkB yc_45 && (yver0 yTt zMt yTb 9 zC_X7_value yc_45 yh_45 && yverA yTt zMt yTb zC_X7_value yc_45 yh_45 yh_45)) = true := by decide +kernel
set_option maxRecDepth 100000 in
theorem yv_46 : (yrkB yc_46 && (yver0 yTt zMt yTb 2 zC_X8_findGoal yc_46 yh_46 && yverA yTt zMt yTb zC_X8_findGoal yc_46 yh_46 yh_46)) = true := by decide +kernel
set_option maxRecDepth 100000 in
theorem yv_47 : (yrkB yc_47 && (yver0 yTt zMt yTb 7 zC_X7_perform yc_47 yh_47 && yverA yTt zMt yTb zC_X7_perform yc_47 yh_47 yh_47)) = true := by decide +kernel
set_option maxRecDepth 100000 in
theorem yv_48 : (yrkB yc_48 && (yver0 yTt zMt yTb 3 zC_X7_takeTurns yc_48 yh_48 && yverA yTt zMt yTb zC_X7_takeTurns yc_48 yh_48 yh_48)) = true := by decide +kernel
set_option maxRecDepth 100000 in
theorem yv_49 : (yrkB yc_49 && (yver0 yTt zMt yTb 4 zC_X7_brokenBans yc_49 yh_49 && yverA yTt zMt yTb zC_X7_brokenBans yc_49 yh_49 yh_49)) = true := by decide +kernel
set_option maxRecDepth 100000 in
theorem yv_50 : (yrkB yc_50 && (yver0 yTt zMt yTb 8 zC_X8_keep yc_50 yh_50 && yverA yTt zMt yTb zC_X8_keep yc_50 yh_50 yh_50)) = true := by decide +kernel
set_option maxRecDepth 100000 in
theorem yv_51 : (yrkB yc_51 && (yver0 yTt zMt yTb 6 zC_X8_widen yc_51 yh_51 && yverA yTt zMt yTb zC_X8_widen yc_51 yh_51 yh_51)) = true := by decide +kernel

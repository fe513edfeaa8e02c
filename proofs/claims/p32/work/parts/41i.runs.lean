/-! Each contract looked through. -/
set_option maxRecDepth 100000 in
theorem yv_42 : (yrkB yc_42 && (yver0 yTt zMt yTb 4 zC_J7_fill_53178 yc_42 yh_42 && yverA yTt zMt yTb zC_J7_fill_53178 yc_42 yh_42 yh_42)) = true := by decide +kernel
set_option maxRecDepth 100000 in
theorem yv_43 : (yrkB yc_43 && (yver0 yTt zMt yTb 6 zC_X7_unpack yc_43 yh_43 && yverA yTt zMt yTb zC_X7_unpack yc_43 yh_43 yh_43)) = true := by decide +kernel
set_option maxRecDepth 100000 in
theorem yv_44 : (yrkB yc_44 && (yver0 yTt zMt yTb 9 zC_X7_value yc_44 yh_44 && yverA yTt zMt yTb zC_X7_value yc_44 yh_44 yh_44)) = true := by decide +kernel
set_option maxRecDepth 100000 in
theorem yv_45 : (yrkB yc_45 && (yver0 yTt zMt yTb 2 zC_X8_findGoal yc_45 yh_45 && yverA yTt zMt yTb zC_X8_findGoal yc_45 yh_45 yh_45)) = true := by decide +kernel
set_option maxRecDepth 100000 in
theorem yv_46 : (yrkB yc_46 && (yver0 yTt zMt yTb 7 zC_X7_perform yc_46 yh_46 && yverA yTt zMt yTb zC_X7_perform yc_46 yh_46 yh_46)) = true := by decide +kernel
set_option maxRecDepth 100000 in
theorem yv_47 : (yrkB yc_47 && (yver0 yTt zMt yTb 3 zC_X7_takeTurns yc_47 yh_47 && yverA yTt zMt yTb zC_X7_takeTurns yc_47 yh_47 yh_47)) = true := by decide +kernel
set_option maxRecDepth 100000 in
theorem yv_48 : (yrkB yc_48 && (yver0 yTt zMt yTb 4 zC_X7_brokenBans yc_48 yh_48 && yverA yTt zMt yTb zC_X7_brokenBans yc_48 yh_48 yh_48)) = true := by decide +kernel
set_option maxRecDepth 100000 in
theorem yv_49 : (yrkB yc_49 && (yver0 yTt zMt yTb 8 zC_X8_keep yc_49 yh_49 && yverA yTt zMt yTb zC_X8_keep yc_49 yh_49 yh_49)) = true := by decide +kernel
set_option maxRecDepth 100000 in
theorem yv_50 : (yrkB yc_50 && (yver0 yTt zMt yTb 6 zC_X8_widen yc_50 yh_50 && yverA yTt zMt yTb zC_X8_widen yc_50 yh_50 yh_50)) = true := by decide +kernel
set_option maxRecDepth 100000 in
theorem yv_51 : (yrkB yc_51 && (yver0 yTt zMt yTb 3 zC_X8_fewestHours yc_51 yh_51 && yverA yTt zMt yTb zC_X8_fewestHours yc_51 yh_51 yh_51)) = true := by decide +kernel
set_option maxRecDepth 100000 in
theorem yv_52 : (yrkB yc_52 && (yver0 yTt zMt yTb 5 zC_X8_layDeeds yc_52 yh_52 && yverA yTt zMt yTb zC_X8_layDeeds yc_52 yh_52 yh_52)) = true := by decide +kernel
set_option maxRecDepth 100000 in
theorem yv_53 : (yrkB yc_53 && (yver0 yTt zMt yTb 3 zC_X11_plan yc_53 yh_53 && yverA yTt zMt yTb zC_X11_plan yc_53 yh_53 yh_53)) = true := by decide +kernel
set_option maxRecDepth 100000 in
theorem yv_54 : (yrkB yc_54 && (yver0 yTt zMt yTb 4 zC_X7_goToRest yc_54 yh_54 && yverA yTt zMt yTb zC_X7_goToRest yc_54 yh_54 yh_54)) = true := by decide +kernel
set_option maxRecDepth 100000 in
theorem yv_55 : (yrkB yc_55 && (yver0 yTt zMt yTb 4 zC_X8_seekGain yc_55 yh_55 && yverA yTt zMt yTb zC_X8_seekGain yc_55 yh_55 yh_55)) = true := by decide +kernel

/-! Each contract looked through. -/
set_option maxRecDepth 100000 in
theorem yv_52 : (yrkB yc_52 && (yver0 yTt zMt yTb 3 zC_X8_fewestHours yc_52 yh_52 && yverA yTt zMt yTb zC_X8_fewestHours yc_52 yh_52 yh_52)) = true := by decide +kernel
set_option maxRecDepth 100000 in
theorem yv_53 : (yrkB yc_53 && (yver0 yTt zMt yTb 5 zC_X8_layDeeds yc_53 yh_53 && yverA yTt zMt yTb zC_X8_layDeeds yc_53 yh_53 yh_53)) = true := by decide +kernel
set_option maxRecDepth 100000 in
theorem yv_55 : (yrkB yc_55 && (yver0 yTt zMt yTb 4 zC_X7_goToRest yc_55 yh_55 && yverA yTt zMt yTb zC_X7_goToRest yc_55 yh_55 yh_55)) = true := by decide +kernel
set_option maxRecDepth 100000 in
theorem yv_56 : (yrkB yc_56 && (yver0 yTt zMt yTb 4 zC_X8_seekGain yc_56 yh_56 && yverA yTt zMt yTb zC_X8_seekGain yc_56 yh_56 yh_56)) = true := by decide +kernel
set_option maxRecDepth 100000 in
theorem yv_57 : (yrkB yc_57 && (yver0 yTt zMt yTb 8 zC_X11_loophole yc_57 yh_57 && yverA yTt zMt yTb zC_X11_loophole yc_57 yh_57 yh_57)) = true := by decide +kernel
set_option maxRecDepth 100000 in
theorem yv_58 : (yrkB yc_58 && (yver0 yTt zMt yTb 3 zC_X7_pass yc_58 yh_58 && yverA yTt zMt yTb zC_X7_pass yc_58 yh_58 yh_58)) = true := by decide +kernel
set_option maxRecDepth 100000 in
theorem yv_59 : (yrkB yc_59 && (yver0 yTt zMt yTb 3 zC_X10_oneShiftWill yc_59 yh_59 && yverA yTt zMt yTb zC_X10_oneShiftWill yc_59 yh_59 yh_59)) = true := by decide +kernel
set_option maxRecDepth 100000 in
theorem yv_60 : (yrkB yc_60 && (yver0 yTt zMt yTb 6 zC_X10_fewestShifts yc_60 yh_60 && yverA yTt zMt yTb zC_X10_fewestShifts yc_60 yh_60 yh_60)) = true := by decide +kernel
set_option maxRecDepth 100000 in
theorem yv_61 : (yrkB yc_61 && (yver0 yTt zMt yTb 6 zC_X11_amend yc_61 yh_61 && yverA yTt zMt yTb zC_X11_amend yc_61 yh_61 yh_61)) = true := by decide +kernel
set_option maxRecDepth 100000 in
theorem yv_62 : (yrkB yc_62 && (yver0 yTt zMt yTb 3 zC_X7_startCalendars yc_62 yh_62 && yverA yTt zMt yTb zC_X7_startCalendars yc_62 yh_62 yh_62)) = true := by decide +kernel
set_option maxRecDepth 100000 in
theorem yv_63 : (yrkB yc_63 && (yver0 yTt zMt yTb 2 zC_X7_nextCalendar yc_63 yh_63 && yverA yTt zMt yTb zC_X7_nextCalendar yc_63 yh_63 yh_63)) = true := by decide +kernel
set_option maxRecDepth 100000 in
theorem yv_64 : (yrkB yc_64 && (yver0 yTt zMt yTb 5 zC_X10_countCalendars yc_64 yh_64 && yverA yTt zMt yTb zC_X10_countCalendars yc_64 yh_64 yh_64)) = true := by decide +kernel
set_option maxRecDepth 100000 in
theorem yv_65 : (yrkB yc_65 && (yver0 yTt zMt yTb 6 zC_X11_all yc_65 yh_65 && yverA yTt zMt yTb zC_X11_all yc_65 yh_65 yh_65)) = true := by decide +kernel
set_option maxRecDepth 100000 in
theorem yv_66 : (yrkB yc_66 && (yver0 yTt zMt yTb 8 zC_X10_bestDay yc_66 yh_66 && yverA yTt zMt yTb zC_X10_bestDay yc_66 yh_66 yh_66)) = true := by decide +kernel
set_option maxRecDepth 100000 in
theorem yv_67 : (yrkB yc_67 && (yver0 yTt zMt yTb 8 zC_X10_turnsToRest yc_67 yh_67 && yverA yTt zMt yTb zC_X10_turnsToRest yc_67 yh_67 yh_67)) = true := by decide +kernel

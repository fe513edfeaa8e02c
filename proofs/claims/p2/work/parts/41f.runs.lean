/-! Each contract looked through. -/
set_option maxRecDepth 100000 in
theorem yv_61 : (yrkB yc_61 && (yver0 yTt zMt yTb 3 zC_X7_startCalendars yc_61 yh_61 && yverA yTt zMt yTb zC_X7_startCalendars yc_61 yh_61 yh_61)) = true := by decide +kernel
set_option maxRecDepth 100000 in
theorem yv_62 : (yrkB yc_62 && (yver0 yTt zMt yTb 2 zC_X7_nextCalendar yc_62 yh_62 && yverA yTt zMt yTb zC_X7_nextCalendar yc_62 yh_62 yh_62)) = true := by decide +kernel
set_option maxRecDepth 100000 in
theorem yv_63 : (yrkB yc_63 && (yver0 yTt zMt yTb 5 zC_X10_countCalendars yc_63 yh_63 && yverA yTt zMt yTb zC_X10_countCalendars yc_63 yh_63 yh_63)) = true := by decide +kernel
set_option maxRecDepth 100000 in
theorem yv_64 : (yrkB yc_64 && (yver0 yTt zMt yTb 6 zC_X11_all yc_64 yh_64 && yverA yTt zMt yTb zC_X11_all yc_64 yh_64 yh_64)) = true := by decide +kernel
set_option maxRecDepth 100000 in
theorem yv_65 : (yrkB yc_65 && (yver0 yTt zMt yTb 8 zC_X10_bestDay yc_65 yh_65 && yverA yTt zMt yTb zC_X10_bestDay yc_65 yh_65 yh_65)) = true := by decide +kernel
set_option maxRecDepth 100000 in
theorem yv_66 : (yrkB yc_66 && (yver0 yTt zMt yTb 8 zC_X10_turnsToRest yc_66 yh_66 && yverA yTt zMt yTb zC_X10_turnsToRest yc_66 yh_66 yh_66)) = true := by decide +kernel
set_option maxRecDepth 100000 in
theorem yv_67 : (yrkB yc_67 && (yver0 yTt zMt yTb 3 zC_X11_guilds yc_67 yh_67 && yverA yTt zMt yTb zC_X11_guilds yc_67 yh_67 yh_67)) = true := by decide +kernel
set_option maxRecDepth 100000 in
theorem yv_68 : (yrkB yc_68 && (yver0 yTt zMt yTb 4 zC_X11_more yc_68 yh_68 && yverA yTt zMt yTb zC_X11_more yc_68 yh_68 yh_68)) = true := by decide +kernel
set_option maxRecDepth 100000 in
theorem yv_69 : (yrkB yc_69 && (yver0 yTt zMt yTb 2 zC_X11_lies yc_69 yh_69 && yverA yTt zMt yTb zC_X11_lies yc_69 yh_69 yh_69)) = true := by decide +kernel
set_option maxRecDepth 100000 in
theorem yv_70 : (yrkB yc_70 && (yver0 yTt zMt yTb 4 zC_X4_tell yc_70 yh_70 && yverA yTt zMt yTb zC_X4_tell yc_70 yh_70 yh_70)) = true := by decide +kernel
set_option maxRecDepth 100000 in
theorem yv_71 : (yrkB yc_71 && (yver0 yTt zMt yTb 4 zC_X11_look yc_71 yh_71 && yverA yTt zMt yTb zC_X11_look yc_71 yh_71 yh_71)) = true := by decide +kernel
set_option maxRecDepth 100000 in
theorem yv_72 : (yrkB yc_72 && (yver0 yTt zMt yTb 2 zC_X11_untell yc_72 yh_72 && yverA yTt zMt yTb zC_X11_untell yc_72 yh_72 yh_72)) = true := by decide +kernel

/-! Each contract looked through. -/
set_option maxRecDepth 100000 in
theorem yv_64 : (yrkB yc_64 && (yver0 yTt zMt yTb 5 zC_X10_countCalendars yc_64 yh_64 && yverA yTt zMt yTb zC_X10_countCalendars yc_64 yh_64 yh_64)) = true := by decide +kernel
set_option maxRecDepth 100000 in
theorem yv_65 : (yrkB yc_65 && (yver0 yTt zMt yTb 6 zC_X11_all yc_65 yh_65 && yverA yTt zMt yTb zC_X11_all yc_65 yh_65 yh_65)) = true := by decide +kernel
set_option maxRecDepth 100000 in
theorem yv_66 : (yrkB yc_66 && (yver0 yTt zMt yTb 8 zC_X10_bestDay yc_66 yh_66 && yverA yTt zMt yTb zC_X10_bestDay yc_66 yh_66 yh_66)) = true := by decide +kernel
set_option maxRecDepth 100000 in
theorem yv_67 : (yrkB yc_67 && (yver0 yTt zMt yTb 8 zC_X10_turnsToRest yc_67 yh_67 && yverA yTt zMt yTb zC_X10_turnsToRest yc_67 yh_67 yh_67)) = true := by decide +kernel
set_option maxRecDepth 100000 in
theorem yv_68 : (yrkB yc_68 && (yver0 yTt zMt yTb 3 zC_X11_guilds yc_68 yh_68 && yverA yTt zMt yTb zC_X11_guilds yc_68 yh_68 yh_68)) = true := by decide +kernel
set_option maxRecDepth 100000 in
theorem yv_69 : (yrkB yc_69 && (yver0 yTt zMt yTb 4 zC_X11_more yc_69 yh_69 && yverA yTt zMt yTb zC_X11_more yc_69 yh_69 yh_69)) = true := by decide +kernel
set_option maxRecDepth 100000 in
theorem yv_70 : (yrkB yc_70 && (yver0 yTt zMt yTb 2 zC_X11_lies yc_70 yh_70 && yverA yTt zMt yTb zC_X11_lies yc_70 yh_70 yh_70)) = true := by decide +kernel
set_option maxRecDepth 100000 in
theorem yv_71 : (yrkB yc_71 && (yver0 yTt zMt yTb 2 zC_X11_untell yc_71 yh_71 && yverA yTt zMt yTb zC_X11_untell yc_71 yh_71 yh_71)) = true := by decide +kernel
set_option maxRecDepth 100000 in
theorem yv_72 : (yrkB yc_72 && (yver0 yTt zMt yTb 4 zC_J7_fill_53178 yc_72 yh_72 && yverA yTt zMt yTb zC_J7_fill_53178 yc_72 yh_72 yh_72)) = true := by decide +kernel
set_option maxRecDepth 100000 in
theorem yv_73 : (yrkB yc_73 && (yver0 yTt zMt yTb 3 zC_X7_begin yc_73 yh_73 && yverA yTt zMt yTb zC_X7_begin yc_73 yh_73 yh_73)) = true := by decide +kernel
set_option maxRecDepth 100000 in
theorem yv_74 : (yrkB yc_74 && (yver0 yTt zMt yTb 3 zC_X7_startCalendars yc_74 yh_74 && yverA yTt zMt yTb zC_X7_startCalendars yc_74 yh_74 yh_74)) = true := by decide +kernel
set_option maxRecDepth 100000 in
theorem yv_75 : (yrkB yc_75 && (yver0 yTt zMt yTb 4 zC_J7_fill_53178 yc_75 yh_75 && yverA yTt zMt yTb zC_J7_fill_53178 yc_75 yh_75 yh_75)) = true := by decide +kernel
set_option maxRecDepth 100000 in
theorem yv_76 : (yrkB yc_76 && (yver0 yTt zMt yTb 6 zC_X4_lastKnown yc_76 yh_76 && yverA yTt zMt yTb zC_X4_lastKnown yc_76 yh_76 yh_76)) = true := by decide +kernel
set_option maxRecDepth 100000 in
theorem yv_77 : (yrkB yc_77 && (yver0 yTt zMt yTb 7 zC_X7_perform yc_77 yh_77 && yverA yTt zMt yTb zC_X7_perform yc_77 yh_77 yh_77)) = true := by decide +kernel

/-! Each contract looked through. -/
set_option maxRecDepth 100000 in
theorem yv_68 : (yrkB yc_68 && (yver0 yTt zMt yTb 3 zC_X11_guilds yc_68 yh_68 && yverA yTt zMt yTb zC_X11_guilds yc_68 yh_68 yh_68)) = true := by decide +kernel
set_option maxRecDepth 100000 in
theorem yv_69 : (yrkB yc_69 && (yver0 yTt zMt yTb 4 zC_X11_more yc_69 yh_69 && yverA yTt zMt yTb zC_X11_more yc_69 yh_69 yh_69)) = true := by decide +kernel
set_option maxRecDepth 100000 in
theorem yv_70 : (yrkB yc_70 && (yver0 yTt zMt yTb 2 zC_X11_lies yc_70 yh_70 && yverA yTt zMt yTb zC_X11_lies yc_70 yh_70 yh_70)) = true := by decide +kernel
set_option maxRecDepth 100000 in
theorem yv_71 : (yrkB yc_71 && (yver0 yTt zMt yTb 4 zC_J7_fill_53178 yc_71 yh_71 && yverA yTt zMt yTb zC_J7_fill_53178 yc_71 yh_71 yh_71)) = true := by decide +kernel
set_option maxRecDepth 100000 in
theorem yv_72 : (yrkB yc_72 && (yver0 yTt zMt yTb 3 zC_X7_begin yc_72 yh_72 && yverA yTt zMt yTb zC_X7_begin yc_72 yh_72 yh_72)) = true := by decide +kernel
set_option maxRecDepth 100000 in
theorem yv_73 : (yrkB yc_73 && (yver0 yTt zMt yTb 3 zC_X7_startCalendars yc_73 yh_73 && yverA yTt zMt yTb zC_X7_startCalendars yc_73 yh_73 yh_73)) = true := by decide +kernel
set_option maxRecDepth 100000 in
theorem yv_74 : (yrkB yc_74 && (yver0 yTt zMt yTb 4 zC_J7_fill_53178 yc_74 yh_74 && yverA yTt zMt yTb zC_J7_fill_53178 yc_74 yh_74 yh_74)) = true := by decide +kernel
set_option maxRecDepth 100000 in
theorem yv_75 : (yrkB yc_75 && (yver0 yTt zMt yTb 6 zC_X4_lastKnown yc_75 yh_75 && yverA yTt zMt yTb zC_X4_lastKnown yc_75 yh_75 yh_75)) = true := by decide +kernel
set_option maxRecDepth 100000 in
theorem yv_76 : (yrkB yc_76 && (yver0 yTt zMt yTb 7 zC_X7_perform yc_76 yh_76 && yverA yTt zMt yTb zC_X7_perform yc_76 yh_76 yh_76)) = true := by decide +kernel
set_option maxRecDepth 100000 in
theorem yv_77 : (yrkB yc_77 && (yver0 yTt zMt yTb 3 zC_X7_takeTurns yc_77 yh_77 && yverA yTt zMt yTb zC_X7_takeTurns yc_77 yh_77 yh_77)) = true := by decide +kernel
set_option maxRecDepth 100000 in
theorem yv_78 : (yrkB yc_78 && (yver0 yTt zMt yTb 3 zC_X7_pass yc_78 yh_78 && yverA yTt zMt yTb zC_X7_pass yc_78 yh_78 yh_78)) = true := by decide +kernel
set_option maxRecDepth 100000 in
theorem yv_79 : (yrkB yc_79 && (yver0 yTt zMt yTb 4 zC_X2_asKnown yc_79 yh_79 && yverA yTt zMt yTb zC_X2_asKnown yc_79 yh_79 yh_79)) = true := by decide +kernel
set_option maxRecDepth 100000 in
theorem yv_80 : (yrkB yc_80 && (yver0 yTt zMt yTb 2 zC_X7_nextCalendar yc_80 yh_80 && yverA yTt zMt yTb zC_X7_nextCalendar yc_80 yh_80 yh_80)) = true := by decide +kernel
set_option maxRecDepth 100000 in
theorem yv_81 : (yrkB yc_81 && (yver0 yTt zMt yTb 4 zC_J7_fill_53178 yc_81 yh_81 && yverA yTt zMt yTb zC_J7_fill_53178 yc_81 yh_81 yh_81)) = true := by decide +kernel
set_option maxRecDepth 100000 in
theorem yv_82 : (yrkB yc_82 && (yver0 yTt zMt yTb 4 zC_X2_fitting yc_82 yh_82 && yverA yTt zMt yTb zC_X2_fitting yc_82 yh_82 yh_82)) = true := by decide +kernel

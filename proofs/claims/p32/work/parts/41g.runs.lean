/-! Each contract looked through. -/
set_option maxRecDepth 100000 in
theorem yv_14 : (yrkB yc_14 && (yver0 yTt zMt yTb 6 zC_X5_readLevel yc_14 yh_14 && yverA yTt zMt yTb zC_X5_readLevel yc_14 yh_14 yh_14)) = true := by decide +kernel
set_option maxRecDepth 100000 in
theorem yv_15 : (yrkB yc_15 && (yver0 yTt zMt yTb 2 zC_X5_readGuild yc_15 yh_15 && yverA yTt zMt yTb zC_X5_readGuild yc_15 yh_15 yh_15)) = true := by decide +kernel
set_option maxRecDepth 100000 in
theorem yv_16 : (yrkB yc_16 && (yver0 yTt zMt yTb 3 zC_X5_find yc_16 yh_16 && yverA yTt zMt yTb zC_X5_find yc_16 yh_16 yh_16)) = true := by decide +kernel
set_option maxRecDepth 100000 in
theorem yv_17 : (yrkB yc_17 && (yver0 yTt zMt yTb 2 zC_X5_readBan yc_17 yh_17 && yverA yTt zMt yTb zC_X5_readBan yc_17 yh_17 yh_17)) = true := by decide +kernel
set_option maxRecDepth 100000 in
theorem yv_18 : (yrkB yc_18 && (yver0 yTt zMt yTb 3 zC_X5_find yc_18 yh_18 && yverA yTt zMt yTb zC_X5_find yc_18 yh_18 yh_18)) = true := by decide +kernel
set_option maxRecDepth 100000 in
theorem yv_19 : (yrkB yc_19 && (yver0 yTt zMt yTb 3 zC_X5_find yc_19 yh_19 && yverA yTt zMt yTb zC_X5_find yc_19 yh_19 yh_19)) = true := by decide +kernel
set_option maxRecDepth 100000 in
theorem yv_20 : (yrkB yc_20 && (yver0 yTt zMt yTb 4 zC_X5_readActor yc_20 yh_20 && yverA yTt zMt yTb zC_X5_readActor yc_20 yh_20 yh_20)) = true := by decide +kernel
set_option maxRecDepth 100000 in
theorem yv_21 : (yrkB yc_21 && (yver0 yTt zMt yTb 2 zC_X5_readThing yc_21 yh_21 && yverA yTt zMt yTb zC_X5_readThing yc_21 yh_21 yh_21)) = true := by decide +kernel
set_option maxRecDepth 100000 in
theorem yv_22 : (yrkB yc_22 && (yver0 yTt zMt yTb 4 zC_X5_reads yc_22 yh_22 && yverA yTt zMt yTb zC_X5_reads yc_22 yh_22 yh_22)) = true := by decide +kernel
set_option maxRecDepth 100000 in
theorem yv_23 : (yrkB yc_23 && (yver0 yTt zMt yTb 3 zC_X7_begin yc_23 yh_23 && yverA yTt zMt yTb zC_X7_begin yc_23 yh_23 yh_23)) = true := by decide +kernel
set_option maxRecDepth 100000 in
theorem yv_24 : (yrkB yc_24 && (yver0 yTt zMt yTb 3 zC_X1_save yc_24 yh_24 && yverA yTt zMt yTb zC_X1_save yc_24 yh_24 yh_24)) = true := by decide +kernel
set_option maxRecDepth 100000 in
theorem yv_25 : (yrkB yc_25 && (yver0 yTt zMt yTb 2 zC_X11_beginAnew yc_25 yh_25 && yverA yTt zMt yTb zC_X11_beginAnew yc_25 yh_25 yh_25)) = true := by decide +kernel
set_option maxRecDepth 100000 in
theorem yv_26 : (yrkB yc_26 && (yver0 yTt zMt yTb 3 zC_X11_land yc_26 yh_26 && yverA yTt zMt yTb zC_X11_land yc_26 yh_26 yh_26)) = true := by decide +kernel
set_option maxRecDepth 100000 in
theorem yv_27 : (yrkB yc_27 && (yver0 yTt zMt yTb 3 zC_X5_readUnit yc_27 yh_27 && yverA yTt zMt yTb zC_X5_readUnit yc_27 yh_27 yh_27)) = true := by decide +kernel

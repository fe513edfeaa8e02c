/-! Each contract looked through. -/
set_option maxRecDepth 100000 in
theorem yv_0 : (yrkB yc_0 && (yver0 yTt zMt yTb 6 zC_X11_feed yc_0 yh_0 && yverA yTt zMt yTb zC_X11_feed yc_0 yh_0 yh_0)) = true := by decide +kernel
set_option maxRecDepth 100000 in
theorem yv_16 : (yrkB yc_16 && (yver0 yTt zMt yTb 2 zC_X5_readGuild yc_16 yh_16 && yverA yTt zMt yTb zC_X5_readGuild yc_16 yh_16 yh_16)) = true := by decide +kernel
set_option maxRecDepth 100000 in
theorem yv_18 : (yrkB yc_18 && (yver0 yTt zMt yTb 2 zC_X5_readBan yc_18 yh_18 && yverA yTt zMt yTb zC_X5_readBan yc_18 yh_18 yh_18)) = true := by decide +kernel
set_option maxRecDepth 100000 in
theorem yv_22 : (yrkB yc_22 && (yver0 yTt zMt yTb 2 zC_X5_readThing yc_22 yh_22 && yverA yTt zMt yTb zC_X5_readThing yc_22 yh_22 yh_22)) = true := by decide +kernel
set_option maxRecDepth 100000 in
theorem yv_23 : (yrkB yc_23 && (yver0 yTt zMt yTb 4 zC_X5_reads yc_23 yh_23 && yverA yTt zMt yTb zC_X5_reads yc_23 yh_23 yh_23)) = true := by decide +kernel
set_option maxRecDepth 100000 in
theorem yv_28 : (yrkB yc_28 && (yver0 yTt zMt yTb 3 zC_X11_land yc_28 yh_28 && yverA yTt zMt yTb zC_X11_land yc_28 yh_28 yh_28)) = true := by decide +kernel
set_option maxRecDepth 100000 in
theorem yv_54 : (yrkB yc_54 && (yver0 yTt zMt yTb 3 zC_X11_plan yc_54 yh_54 && yverA yTt zMt yTb zC_X11_plan yc_54 yh_54 yh_54)) = true := by decide +kernel

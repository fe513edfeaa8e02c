/-! Each instruction is what its row says. -/
set_option maxRecDepth 100000 in
theorem zcd_X3_has : zcdB yX3_has.cls yX3_has.name (some .boolean) cX3_has zC_X3_has = true := by decide +kernel
set_option maxRecDepth 100000 in
theorem zcd_X4_passTime : zcdB yX4_passTime.cls yX4_passTime.name (some .int) cX4_passTime zC_X4_passTime = true := by decide +kernel
set_option maxRecDepth 100000 in
theorem zcd_X4_lastKnown : zcdB yX4_lastKnown.cls yX4_lastKnown.name (some .int) cX4_lastKnown zC_X4_lastKnown = true := by decide +kernel
set_option maxRecDepth 100000 in
theorem zcd_X5_init : zcdB yX5_init.cls yX5_init.name none cX5_init zC_X5_init = true := by decide +kernel
set_option maxRecDepth 100000 in
theorem zcd_X6_comesRound : zcdB yX6_comesRound.cls yX6_comesRound.name (some .boolean) cX6_comesRound zC_X6_comesRound = true := by decide +kernel
set_option maxRecDepth 100000 in
theorem zcd_X7_begin : zcdB yX7_begin.cls yX7_begin.name none cX7_begin zC_X7_begin = true := by decide +kernel
set_option maxRecDepth 100000 in
theorem zcd_X7_copy : zcdB yX7_copy.cls yX7_copy.name none cX7_copy zC_X7_copy = true := by decide +kernel
set_option maxRecDepth 100000 in
theorem zcd_X7_value : zcdB yX7_value.cls yX7_value.name (some .int) cX7_value zC_X7_value = true := by decide +kernel
set_option maxRecDepth 100000 in
theorem zcd_X7_startCalendars : zcdB yX7_startCalendars.cls yX7_startCalendars.name (some .int) cX7_startCalendars zC_X7_startCalendars = true := by decide +kernel
set_option maxRecDepth 100000 in
theorem zcd_X9_put : zcdB yX9_put.cls yX9_put.name none cX9_put zC_X9_put = true := by decide +kernel
set_option maxRecDepth 100000 in
theorem zcd_X11_fault : zcdB yX11_fault.cls yX11_fault.name (some .int) cX11_fault zC_X11_fault = true := by decide +kernel
set_option maxRecDepth 100000 in
theorem zcd_X11_clash : zcdB yX11_clash.cls yX11_clash.name (some .int) cX11_clash zC_X11_clash = true := by decide +kernel
set_option maxRecDepth 100000 in
theorem zcd_X11_look : zcdB yX11_look.cls yX11_look.name (some .int) cX11_look zC_X11_look = true := by decide +kernel
set_option maxRecDepth 100000 in
theorem zcd_X11_image : zcdB yX11_image.cls yX11_image.name (some .int) cX11_image zC_X11_image = true := by decide +kernel
set_option maxRecDepth 100000 in
theorem zcd_X12_here : zcdB yX12_here.cls yX12_here.name (some .int) cX12_here zC_X12_here = true := by decide +kernel
set_option maxRecDepth 100000 in
theorem zcd_X12_truth : zcdB yX12_truth.cls yX12_truth.name (some .int) cX12_truth zC_X12_truth = true := by decide +kernel
set_option maxRecDepth 100000 in
theorem zcd_X12_fault : zcdB yX12_fault.cls yX12_fault.name (some .int) cX12_fault zC_X12_fault = true := by decide +kernel
set_option maxRecDepth 100000 in
theorem zcd_X12_thing : zcdB yX12_thing.cls yX12_thing.name (some .int) cX12_thing zC_X12_thing = true := by decide +kernel
set_option maxRecDepth 100000 in
theorem zcd_X12_goalNow : zcdB yX12_goalNow.cls yX12_goalNow.name (some .int) cX12_goalNow zC_X12_goalNow = true := by decide +kernel
set_option maxRecDepth 100000 in
theorem zcd_X12_shift : zcdB yX12_shift.cls yX12_shift.name (some .int) cX12_shift zC_X12_shift = true := by decide +kernel
set_option maxRecDepth 100000 in
theorem zcd_X12_undo : zcdB yX12_undo.cls yX12_undo.name (some .boolean) cX12_undo zC_X12_undo = true := by decide +kernel
set_option maxRecDepth 100000 in
theorem zcd_X12_will : zcdB yX12_will.cls yX12_will.name (some .int) cX12_will zC_X12_will = true := by decide +kernel
set_option maxRecDepth 100000 in
theorem zcd_X12_putTrail : zcdB yX12_putTrail.cls yX12_putTrail.name none cX12_putTrail zC_X12_putTrail = true := by decide +kernel
set_option maxRecDepth 100000 in
theorem zcd_X12_isTrail : zcdB yX12_isTrail.cls yX12_isTrail.name (some .boolean) cX12_isTrail zC_X12_isTrail = true := by decide +kernel

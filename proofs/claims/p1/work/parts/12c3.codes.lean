/-! Each instruction is what its row says. -/
set_option maxRecDepth 100000 in
theorem zcd_X0_goTo : zcdB yX0_goTo.cls yX0_goTo.name (some .boolean) cX0_goTo zC_X0_goTo = true := by decide +kernel
set_option maxRecDepth 100000 in
theorem zcd_X1_init : zcdB yX1_init.cls yX1_init.name none cX1_init zC_X1_init = true := by decide +kernel
set_option maxRecDepth 100000 in
theorem zcd_X6_init : zcdB yX6_init.cls yX6_init.name none cX6_init zC_X6_init = true := by decide +kernel
set_option maxRecDepth 100000 in
theorem zcd_X7_takeTurns : zcdB yX7_takeTurns.cls yX7_takeTurns.name none cX7_takeTurns zC_X7_takeTurns = true := by decide +kernel
set_option maxRecDepth 100000 in
theorem zcd_X10_init : zcdB yX10_init.cls yX10_init.name none cX10_init zC_X10_init = true := by decide +kernel
set_option maxRecDepth 100000 in
theorem zcd_X10_turnsToRest : zcdB yX10_turnsToRest.cls yX10_turnsToRest.name (some .int) cX10_turnsToRest zC_X10_turnsToRest = true := by decide +kernel
set_option maxRecDepth 100000 in
theorem zcd_X10_layFeasts : zcdB yX10_layFeasts.cls yX10_layFeasts.name none cX10_layFeasts zC_X10_layFeasts = true := by decide +kernel
set_option maxRecDepth 100000 in
theorem zcd_X11_beginAnew : zcdB yX11_beginAnew.cls yX11_beginAnew.name none cX11_beginAnew zC_X11_beginAnew = true := by decide +kernel
set_option maxRecDepth 100000 in
theorem zcd_X11_putBytes : zcdB yX11_putBytes.cls yX11_putBytes.name none cX11_putBytes zC_X11_putBytes = true := by decide +kernel
set_option maxRecDepth 100000 in
theorem zcd_X11_round : zcdB yX11_round.cls yX11_round.name (some .int) cX11_round zC_X11_round = true := by decide +kernel
set_option maxRecDepth 100000 in
theorem zcd_X11_lies : zcdB yX11_lies.cls yX11_lies.name (some .int) cX11_lies zC_X11_lies = true := by decide +kernel
set_option maxRecDepth 100000 in
theorem zcd_X11_later : zcdB yX11_later.cls yX11_later.name (some .int) cX11_later zC_X11_later = true := by decide +kernel
set_option maxRecDepth 100000 in
theorem zcd_X12_four : zcdB yX12_four.cls yX12_four.name none cX12_four zC_X12_four = true := by decide +kernel
set_option maxRecDepth 100000 in
theorem zcd_X12_land : zcdB yX12_land.cls yX12_land.name (some .int) cX12_land zC_X12_land = true := by decide +kernel
set_option maxRecDepth 100000 in
theorem zcd_X12_isIn : zcdB yX12_isIn.cls yX12_isIn.name (some .boolean) cX12_isIn zC_X12_isIn = true := by decide +kernel
set_option maxRecDepth 100000 in
theorem zcd_X12_isDeed : zcdB yX12_isDeed.cls yX12_isDeed.name (some .boolean) cX12_isDeed zC_X12_isDeed = true := by decide +kernel
set_option maxRecDepth 100000 in
theorem zcd_X12_load : zcdB yX12_load.cls yX12_load.name none cX12_load zC_X12_load = true := by decide +kernel
set_option maxRecDepth 100000 in
theorem zcd_X12_brokenNow : zcdB yX12_brokenNow.cls yX12_brokenNow.name (some .int) cX12_brokenNow zC_X12_brokenNow = true := by decide +kernel
set_option maxRecDepth 100000 in
theorem zcd_X12_tick : zcdB yX12_tick.cls yX12_tick.name none cX12_tick zC_X12_tick = true := by decide +kernel
set_option maxRecDepth 100000 in
theorem zcd_X12_note : zcdB yX12_note.cls yX12_note.name none cX12_note zC_X12_note = true := by decide +kernel
set_option maxRecDepth 100000 in
theorem zcd_X12_hours : zcdB yX12_hours.cls yX12_hours.name (some .int) cX12_hours zC_X12_hours = true := by decide +kernel
set_option maxRecDepth 100000 in
theorem zcd_X12_deed : zcdB yX12_deed.cls yX12_deed.name (some .boolean) cX12_deed zC_X12_deed = true := by decide +kernel
set_option maxRecDepth 100000 in
theorem zcd_X12_more : zcdB yX12_more.cls yX12_more.name (some .int) cX12_more zC_X12_more = true := by decide +kernel
set_option maxRecDepth 100000 in
theorem zcd_X12_fits : zcdB yX12_fits.cls yX12_fits.name (some .boolean) cX12_fits zC_X12_fits = true := by decide +kernel
set_option maxRecDepth 100000 in
theorem zcd_X12_fit : zcdB yX12_fit.cls yX12_fit.name (some .int) cX12_fit zC_X12_fit = true := by decide +kernel

/-! Each instruction is what its row says. -/
set_option maxRecDepth 100000 in
theorem zcd_X2_init : zcdB yX2_init.cls yX2_init.name none cX2_init zC_X2_init = true := by decide +kernel
set_option maxRecDepth 100000 in
theorem zcd_X3_init : zcdB yX3_init.cls yX3_init.name none cX3_init zC_X3_init = true := by decide +kernel
set_option maxRecDepth 100000 in
theorem zcd_X4_init : zcdB yX4_init.cls yX4_init.name none cX4_init zC_X4_init = true := by decide +kernel
set_option maxRecDepth 100000 in
theorem zcd_X5_readLaw : zcdB yX5_readLaw.cls yX5_readLaw.name (some .boolean) cX5_readLaw zC_X5_readLaw = true := by decide +kernel
set_option maxRecDepth 100000 in
theorem zcd_X5_readAim : zcdB yX5_readAim.cls yX5_readAim.name (some .boolean) cX5_readAim zC_X5_readAim = true := by decide +kernel
set_option maxRecDepth 100000 in
theorem zcd_X5_readFormula : zcdB yX5_readFormula.cls yX5_readFormula.name (some .boolean) cX5_readFormula zC_X5_readFormula = true := by decide +kernel
set_option maxRecDepth 100000 in
theorem zcd_X5_step : zcdB yX5_step.cls yX5_step.name none cX5_step zC_X5_step = true := by decide +kernel
set_option maxRecDepth 100000 in
theorem zcd_X7_begin : zcdB yX7_begin.cls yX7_begin.name none cX7_begin zC_X7_begin = true := by decide +kernel
set_option maxRecDepth 100000 in
theorem zcd_X7_goToRest : zcdB yX7_goToRest.cls yX7_goToRest.name none cX7_goToRest zC_X7_goToRest = true := by decide +kernel
set_option maxRecDepth 100000 in
theorem zcd_X7_value : zcdB yX7_value.cls yX7_value.name (some .int) cX7_value zC_X7_value = true := by decide +kernel
set_option maxRecDepth 100000 in
theorem zcd_X7_pass : zcdB yX7_pass.cls yX7_pass.name none cX7_pass zC_X7_pass = true := by decide +kernel
set_option maxRecDepth 100000 in
theorem zcd_X8_init : zcdB yX8_init.cls yX8_init.name none cX8_init zC_X8_init = true := by decide +kernel
set_option maxRecDepth 100000 in
theorem zcd_X8_start : zcdB yX8_start.cls yX8_start.name none cX8_start zC_X8_start = true := by decide +kernel
set_option maxRecDepth 100000 in
theorem zcd_X9_init : zcdB yX9_init.cls yX9_init.name none cX9_init zC_X9_init = true := by decide +kernel
set_option maxRecDepth 100000 in
theorem zcd_X9_cutOne : zcdB yX9_cutOne.cls yX9_cutOne.name (some .int) cX9_cutOne zC_X9_cutOne = true := by decide +kernel
set_option maxRecDepth 100000 in
theorem zcd_X9_put : zcdB yX9_put.cls yX9_put.name none cX9_put zC_X9_put = true := by decide +kernel
set_option maxRecDepth 100000 in
theorem zcd_X9_isDigit : zcdB yX9_isDigit.cls yX9_isDigit.name (some .boolean) cX9_isDigit zC_X9_isDigit = true := by decide +kernel
set_option maxRecDepth 100000 in
theorem zcd_X10_countCalendars : zcdB yX10_countCalendars.cls yX10_countCalendars.name (some .int) cX10_countCalendars zC_X10_countCalendars = true := by decide +kernel
set_option maxRecDepth 100000 in
theorem zcd_X10_turnsToRest : zcdB yX10_turnsToRest.cls yX10_turnsToRest.name (some .int) cX10_turnsToRest zC_X10_turnsToRest = true := by decide +kernel
set_option maxRecDepth 100000 in
theorem zcd_X10_bestDay : zcdB yX10_bestDay.cls yX10_bestDay.name (some .int) cX10_bestDay zC_X10_bestDay = true := by decide +kernel
set_option maxRecDepth 100000 in
theorem zcd_X11_feed : zcdB yX11_feed.cls yX11_feed.name (some .int) cX11_feed zC_X11_feed = true := by decide +kernel
set_option maxRecDepth 100000 in
theorem zcd_X11_gainOfRest : zcdB yX11_gainOfRest.cls yX11_gainOfRest.name (some .int) cX11_gainOfRest zC_X11_gainOfRest = true := by decide +kernel
set_option maxRecDepth 100000 in
theorem zcd_X11_amend : zcdB yX11_amend.cls yX11_amend.name (some .int) cX11_amend zC_X11_amend = true := by decide +kernel
set_option maxRecDepth 100000 in
theorem zcd_X11_fit : zcdB yX11_fit.cls yX11_fit.name (some .int) cX11_fit zC_X11_fit = true := by decide +kernel
set_option maxRecDepth 100000 in
theorem zcd_X12_end : zcdB yX12_end.cls yX12_end.name (some .int) cX12_end zC_X12_end = true := by decide +kernel
set_option maxRecDepth 100000 in
theorem zcd_X12_wrong : zcdB yX12_wrong.cls yX12_wrong.name none cX12_wrong zC_X12_wrong = true := by decide +kernel
set_option maxRecDepth 100000 in
theorem zcd_X12_want : zcdB yX12_want.cls yX12_want.name none cX12_want zC_X12_want = true := by decide +kernel
set_option maxRecDepth 100000 in
theorem zcd_X12_told : zcdB yX12_told.cls yX12_told.name (some .int) cX12_told zC_X12_told = true := by decide +kernel
set_option maxRecDepth 100000 in
theorem zcd_X12_hasRelation : zcdB yX12_hasRelation.cls yX12_hasRelation.name (some .boolean) cX12_hasRelation zC_X12_hasRelation = true := by decide +kernel
set_option maxRecDepth 100000 in
theorem zcd_X12_sign : zcdB yX12_sign.cls yX12_sign.name (some .int) cX12_sign zC_X12_sign = true := by decide +kernel
set_option maxRecDepth 100000 in
theorem zcd_X12_isIn : zcdB yX12_isIn.cls yX12_isIn.name (some .boolean) cX12_isIn zC_X12_isIn = true := by decide +kernel
set_option maxRecDepth 100000 in
theorem zcd_X12_doesNow : zcdB yX12_doesNow.cls yX12_doesNow.name (some .boolean) cX12_doesNow zC_X12_doesNow = true := by decide +kernel
set_option maxRecDepth 100000 in
theorem zcd_X12_goHours : zcdB yX12_goHours.cls yX12_goHours.name none cX12_goHours zC_X12_goHours = true := by decide +kernel
set_option maxRecDepth 100000 in
theorem zcd_X12_can : zcdB yX12_can.cls yX12_can.name (some .int) cX12_can zC_X12_can = true := by decide +kernel
set_option maxRecDepth 100000 in
theorem zcd_X12_putTrail : zcdB yX12_putTrail.cls yX12_putTrail.name none cX12_putTrail zC_X12_putTrail = true := by decide +kernel
set_option maxRecDepth 100000 in
theorem zcd_X12_putWay : zcdB yX12_putWay.cls yX12_putWay.name (some .int) cX12_putWay zC_X12_putWay = true := by decide +kernel
set_option maxRecDepth 100000 in
theorem zcd_X12_amend : zcdB yX12_amend.cls yX12_amend.name (some .int) cX12_amend zC_X12_amend = true := by decide +kernel
set_option maxRecDepth 100000 in
theorem zcd_X12_shifts : zcdB yX12_shifts.cls yX12_shifts.name (some .boolean) cX12_shifts zC_X12_shifts = true := by decide +kernel
set_option maxRecDepth 100000 in
theorem zcd_X12_guilds : zcdB yX12_guilds.cls yX12_guilds.name (some .int) cX12_guilds zC_X12_guilds = true := by decide +kernel
set_option maxRecDepth 100000 in
theorem zcd_X12_lies : zcdB yX12_lies.cls yX12_lies.name (some .int) cX12_lies zC_X12_lies = true := by decide +kernel
set_option maxRecDepth 100000 in
theorem zcd_X12_later : zcdB yX12_later.cls yX12_later.name (some .int) cX12_later zC_X12_later = true := by decide +kernel
set_option maxRecDepth 100000 in
theorem zcd_X12_fits : zcdB yX12_fits.cls yX12_fits.name (some .boolean) cX12_fits zC_X12_fits = true := by decide +kernel
set_option maxRecDepth 100000 in
theorem zcd_X12_rests : zcdB yX12_rests.cls yX12_rests.name (some .int) cX12_rests zC_X12_rests = true := by decide +kernel
set_option maxRecDepth 100000 in
theorem zcd_X12_image : zcdB yX12_image.cls yX12_image.name (some .int) cX12_image zC_X12_image = true := by decide +kernel

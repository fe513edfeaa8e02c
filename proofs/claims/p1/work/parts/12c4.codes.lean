/-! Each instruction is what its row says. -/
set_option maxRecDepth 100000 in
theorem zcd_X0_forget : zcdB yX0_forget.cls yX0_forget.name none cX0_forget zC_X0_forget = true := by decide +kernel
set_option maxRecDepth 100000 in
theorem zcd_X2_fitting : zcdB yX2_fitting.cls yX2_fitting.name (some .boolean) cX2_fitting zC_X2_fitting = true := by decide +kernel
set_option maxRecDepth 100000 in
theorem zcd_X3_init : zcdB yX3_init.cls yX3_init.name none cX3_init zC_X3_init = true := by decide +kernel
set_option maxRecDepth 100000 in
theorem zcd_X5_step : zcdB yX5_step.cls yX5_step.name none cX5_step zC_X5_step = true := by decide +kernel
set_option maxRecDepth 100000 in
theorem zcd_X6_note : zcdB yX6_note.cls yX6_note.name none cX6_note zC_X6_note = true := by decide +kernel
set_option maxRecDepth 100000 in
theorem zcd_X7_init : zcdB yX7_init.cls yX7_init.name none cX7_init zC_X7_init = true := by decide +kernel
set_option maxRecDepth 100000 in
theorem zcd_X7_dayNumber : zcdB yX7_dayNumber.cls yX7_dayNumber.name (some .int) cX7_dayNumber zC_X7_dayNumber = true := by decide +kernel
set_option maxRecDepth 100000 in
theorem zcd_X8_init : zcdB yX8_init.cls yX8_init.name none cX8_init zC_X8_init = true := by decide +kernel
set_option maxRecDepth 100000 in
theorem zcd_X11_feed : zcdB yX11_feed.cls yX11_feed.name (some .int) cX11_feed zC_X11_feed = true := by decide +kernel
set_option maxRecDepth 100000 in
theorem zcd_X11_feast : zcdB yX11_feast.cls yX11_feast.name (some .int) cX11_feast zC_X11_feast = true := by decide +kernel
set_option maxRecDepth 100000 in
theorem zcd_X11_crime : zcdB yX11_crime.cls yX11_crime.name (some .int) cX11_crime zC_X11_crime = true := by decide +kernel
set_option maxRecDepth 100000 in
theorem zcd_X11_most : zcdB yX11_most.cls yX11_most.name (some .int) cX11_most zC_X11_most = true := by decide +kernel
set_option maxRecDepth 100000 in
theorem zcd_X11_untell : zcdB yX11_untell.cls yX11_untell.name (some .boolean) cX11_untell zC_X11_untell = true := by decide +kernel
set_option maxRecDepth 100000 in
theorem zcd_X11_rests : zcdB yX11_rests.cls yX11_rests.name (some .int) cX11_rests zC_X11_rests = true := by decide +kernel
set_option maxRecDepth 100000 in
theorem zcd_X12_init : zcdB yX12_init.cls yX12_init.name none cX12_init zC_X12_init = true := by decide +kernel
set_option maxRecDepth 100000 in
theorem zcd_X12_isLaw : zcdB yX12_isLaw.cls yX12_isLaw.name (some .boolean) cX12_isLaw zC_X12_isLaw = true := by decide +kernel
set_option maxRecDepth 100000 in
theorem zcd_X12_does : zcdB yX12_does.cls yX12_does.name (some .int) cX12_does zC_X12_does = true := by decide +kernel
set_option maxRecDepth 100000 in
theorem zcd_X12_says : zcdB yX12_says.cls yX12_says.name (some .int) cX12_says zC_X12_says = true := by decide +kernel
set_option maxRecDepth 100000 in
theorem zcd_X12_plan : zcdB yX12_plan.cls yX12_plan.name (some .int) cX12_plan zC_X12_plan = true := by decide +kernel
set_option maxRecDepth 100000 in
theorem zcd_X12_most : zcdB yX12_most.cls yX12_most.name (some .int) cX12_most zC_X12_most = true := by decide +kernel
set_option maxRecDepth 100000 in
theorem zcd_X12_calendars : zcdB yX12_calendars.cls yX12_calendars.name (some .int) cX12_calendars zC_X12_calendars = true := by decide +kernel
set_option maxRecDepth 100000 in
theorem zcd_X12_all : zcdB yX12_all.cls yX12_all.name (some .int) cX12_all zC_X12_all = true := by decide +kernel
set_option maxRecDepth 100000 in
theorem zcd_X12_lastHour : zcdB yX12_lastHour.cls yX12_lastHour.name (some .int) cX12_lastHour zC_X12_lastHour = true := by decide +kernel
set_option maxRecDepth 100000 in
theorem zcd_X12_rests : zcdB yX12_rests.cls yX12_rests.name (some .int) cX12_rests zC_X12_rests = true := by decide +kernel
set_option maxRecDepth 100000 in
theorem zcd_X12_image : zcdB yX12_image.cls yX12_image.name (some .int) cX12_image zC_X12_image = true := by decide +kernel

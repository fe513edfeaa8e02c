/-! Each instruction is what its row says. -/
set_option maxRecDepth 100000 in
theorem zcd_X0_init : zcdB yX0_init.cls yX0_init.name none cX0_init zC_X0_init = true := by decide +kernel
set_option maxRecDepth 100000 in
theorem zcd_X1_begin : zcdB yX1_begin.cls yX1_begin.name none cX1_begin zC_X1_begin = true := by decide +kernel
set_option maxRecDepth 100000 in
theorem zcd_X1_passHours : zcdB yX1_passHours.cls yX1_passHours.name none cX1_passHours zC_X1_passHours = true := by decide +kernel
set_option maxRecDepth 100000 in
theorem zcd_X1_noteCrime : zcdB yX1_noteCrime.cls yX1_noteCrime.name none cX1_noteCrime zC_X1_noteCrime = true := by decide +kernel
set_option maxRecDepth 100000 in
theorem zcd_X2_sift : zcdB yX2_sift.cls yX2_sift.name (some .int) cX2_sift zC_X2_sift = true := by decide +kernel
set_option maxRecDepth 100000 in
theorem zcd_X2_noteFit : zcdB yX2_noteFit.cls yX2_noteFit.name none cX2_noteFit zC_X2_noteFit = true := by decide +kernel
set_option maxRecDepth 100000 in
theorem zcd_X5_reads : zcdB yX5_reads.cls yX5_reads.name (some .boolean) cX5_reads zC_X5_reads = true := by decide +kernel
set_option maxRecDepth 100000 in
theorem zcd_X7_pass : zcdB yX7_pass.cls yX7_pass.name none cX7_pass zC_X7_pass = true := by decide +kernel
set_option maxRecDepth 100000 in
theorem zcd_X7_nextCalendar : zcdB yX7_nextCalendar.cls yX7_nextCalendar.name none cX7_nextCalendar zC_X7_nextCalendar = true := by decide +kernel
set_option maxRecDepth 100000 in
theorem zcd_X11_land : zcdB yX11_land.cls yX11_land.name (some .int) cX11_land zC_X11_land = true := by decide +kernel
set_option maxRecDepth 100000 in
theorem zcd_X11_can : zcdB yX11_can.cls yX11_can.name (some .int) cX11_can zC_X11_can = true := by decide +kernel
set_option maxRecDepth 100000 in
theorem zcd_X11_shift : zcdB yX11_shift.cls yX11_shift.name (some .int) cX11_shift zC_X11_shift = true := by decide +kernel
set_option maxRecDepth 100000 in
theorem zcd_X11_plan : zcdB yX11_plan.cls yX11_plan.name (some .int) cX11_plan zC_X11_plan = true := by decide +kernel
set_option maxRecDepth 100000 in
theorem zcd_X11_amend : zcdB yX11_amend.cls yX11_amend.name (some .int) cX11_amend zC_X11_amend = true := by decide +kernel
set_option maxRecDepth 100000 in
theorem zcd_X11_all : zcdB yX11_all.cls yX11_all.name (some .int) cX11_all zC_X11_all = true := by decide +kernel
set_option maxRecDepth 100000 in
theorem zcd_X11_more : zcdB yX11_more.cls yX11_more.name (some .int) cX11_more zC_X11_more = true := by decide +kernel
set_option maxRecDepth 100000 in
theorem zcd_X11_back : zcdB yX11_back.cls yX11_back.name (some .int) cX11_back zC_X11_back = true := by decide +kernel
set_option maxRecDepth 100000 in
theorem zcd_X12_doLaws : zcdB yX12_doLaws.cls yX12_doLaws.name none cX12_doLaws zC_X12_doLaws = true := by decide +kernel
set_option maxRecDepth 100000 in
theorem zcd_X12_feast : zcdB yX12_feast.cls yX12_feast.name (some .int) cX12_feast zC_X12_feast = true := by decide +kernel
set_option maxRecDepth 100000 in
theorem zcd_X12_can : zcdB yX12_can.cls yX12_can.name (some .int) cX12_can zC_X12_can = true := by decide +kernel
set_option maxRecDepth 100000 in
theorem zcd_X12_leap : zcdB yX12_leap.cls yX12_leap.name (some .boolean) cX12_leap zC_X12_leap = true := by decide +kernel
set_option maxRecDepth 100000 in
theorem zcd_X12_round : zcdB yX12_round.cls yX12_round.name (some .int) cX12_round zC_X12_round = true := by decide +kernel
set_option maxRecDepth 100000 in
theorem zcd_X12_amend : zcdB yX12_amend.cls yX12_amend.name (some .int) cX12_amend zC_X12_amend = true := by decide +kernel
set_option maxRecDepth 100000 in
theorem zcd_X12_guilds : zcdB yX12_guilds.cls yX12_guilds.name (some .int) cX12_guilds zC_X12_guilds = true := by decide +kernel
set_option maxRecDepth 100000 in
theorem zcd_X12_lies : zcdB yX12_lies.cls yX12_lies.name (some .int) cX12_lies zC_X12_lies = true := by decide +kernel
set_option maxRecDepth 100000 in
theorem zcd_X12_ask : zcdB yX12_ask.cls yX12_ask.name (some .int) cX12_ask zC_X12_ask = true := by decide +kernel
set_option maxRecDepth 100000 in
theorem zcd_X12_isBox : zcdB yX12_isBox.cls yX12_isBox.name (some .boolean) cX12_isBox zC_X12_isBox = true := by decide +kernel

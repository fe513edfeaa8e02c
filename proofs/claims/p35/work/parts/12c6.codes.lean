/-! Each instruction is what its row says. -/
set_option maxRecDepth 100000 in
theorem zcd_X2_tellingMost : zcdB yX2_tellingMost.cls yX2_tellingMost.name (some .int) cX2_tellingMost zC_X2_tellingMost = true := by decide +kernel
set_option maxRecDepth 100000 in
theorem zcd_X2_leftAtMost : zcdB yX2_leftAtMost.cls yX2_leftAtMost.name (some .int) cX2_leftAtMost zC_X2_leftAtMost = true := by decide +kernel
set_option maxRecDepth 100000 in
theorem zcd_X5_reads : zcdB yX5_reads.cls yX5_reads.name (some .boolean) cX5_reads zC_X5_reads = true := by decide +kernel
set_option maxRecDepth 100000 in
theorem zcd_X5_readUnit : zcdB yX5_readUnit.cls yX5_readUnit.name (some .boolean) cX5_readUnit zC_X5_readUnit = true := by decide +kernel
set_option maxRecDepth 100000 in
theorem zcd_X5_find : zcdB yX5_find.cls yX5_find.name (some .int) cX5_find zC_X5_find = true := by decide +kernel
set_option maxRecDepth 100000 in
theorem zcd_X5_refuse : zcdB yX5_refuse.cls yX5_refuse.name (some .boolean) cX5_refuse zC_X5_refuse = true := by decide +kernel
set_option maxRecDepth 100000 in
theorem zcd_X6_init : zcdB yX6_init.cls yX6_init.name none cX6_init zC_X6_init = true := by decide +kernel
set_option maxRecDepth 100000 in
theorem zcd_X7_dayNumber : zcdB yX7_dayNumber.cls yX7_dayNumber.name (some .int) cX7_dayNumber zC_X7_dayNumber = true := by decide +kernel
set_option maxRecDepth 100000 in
theorem zcd_X7_acting : zcdB yX7_acting.cls yX7_acting.name (some .boolean) cX7_acting zC_X7_acting = true := by decide +kernel
set_option maxRecDepth 100000 in
theorem zcd_X7_takeTurns : zcdB yX7_takeTurns.cls yX7_takeTurns.name none cX7_takeTurns zC_X7_takeTurns = true := by decide +kernel
set_option maxRecDepth 100000 in
theorem zcd_X7_startCalendars : zcdB yX7_startCalendars.cls yX7_startCalendars.name (some .int) cX7_startCalendars zC_X7_startCalendars = true := by decide +kernel
set_option maxRecDepth 100000 in
theorem zcd_X9_cut : zcdB yX9_cut.cls yX9_cut.name none cX9_cut zC_X9_cut = true := by decide +kernel
set_option maxRecDepth 100000 in
theorem zcd_X9_isWord : zcdB yX9_isWord.cls yX9_isWord.name (some .boolean) cX9_isWord zC_X9_isWord = true := by decide +kernel
set_option maxRecDepth 100000 in
theorem zcd_X10_layFeasts : zcdB yX10_layFeasts.cls yX10_layFeasts.name none cX10_layFeasts zC_X10_layFeasts = true := by decide +kernel
set_option maxRecDepth 100000 in
theorem zcd_X11_land : zcdB yX11_land.cls yX11_land.name (some .int) cX11_land zC_X11_land = true := by decide +kernel
set_option maxRecDepth 100000 in
theorem zcd_X11_does : zcdB yX11_does.cls yX11_does.name (some .int) cX11_does zC_X11_does = true := by decide +kernel
set_option maxRecDepth 100000 in
theorem zcd_X11_hours : zcdB yX11_hours.cls yX11_hours.name (some .int) cX11_hours zC_X11_hours = true := by decide +kernel
set_option maxRecDepth 100000 in
theorem zcd_X11_shift : zcdB yX11_shift.cls yX11_shift.name (some .int) cX11_shift zC_X11_shift = true := by decide +kernel
set_option maxRecDepth 100000 in
theorem zcd_X11_undo : zcdB yX11_undo.cls yX11_undo.name (some .boolean) cX11_undo zC_X11_undo = true := by decide +kernel
set_option maxRecDepth 100000 in
theorem zcd_X11_round : zcdB yX11_round.cls yX11_round.name (some .int) cX11_round zC_X11_round = true := by decide +kernel
set_option maxRecDepth 100000 in
theorem zcd_X11_lies : zcdB yX11_lies.cls yX11_lies.name (some .int) cX11_lies zC_X11_lies = true := by decide +kernel
set_option maxRecDepth 100000 in
theorem zcd_X11_later : zcdB yX11_later.cls yX11_later.name (some .int) cX11_later zC_X11_later = true := by decide +kernel
set_option maxRecDepth 100000 in
theorem zcd_X11_ask : zcdB yX11_ask.cls yX11_ask.name (some .int) cX11_ask zC_X11_ask = true := by decide +kernel
set_option maxRecDepth 100000 in
theorem zcd_X12_here : zcdB yX12_here.cls yX12_here.name (some .int) cX12_here zC_X12_here = true := by decide +kernel
set_option maxRecDepth 100000 in
theorem zcd_X12_token : zcdB yX12_token.cls yX12_token.name none cX12_token zC_X12_token = true := by decide +kernel
set_option maxRecDepth 100000 in
theorem zcd_X12_isOwn : zcdB yX12_isOwn.cls yX12_isOwn.name (some .boolean) cX12_isOwn zC_X12_isOwn = true := by decide +kernel
set_option maxRecDepth 100000 in
theorem zcd_X12_find : zcdB yX12_find.cls yX12_find.name (some .int) cX12_find zC_X12_find = true := by decide +kernel
set_option maxRecDepth 100000 in
theorem zcd_X12_add : zcdB yX12_add.cls yX12_add.name none cX12_add zC_X12_add = true := by decide +kernel
set_option maxRecDepth 100000 in
theorem zcd_X12_close : zcdB yX12_close.cls yX12_close.name none cX12_close zC_X12_close = true := by decide +kernel
set_option maxRecDepth 100000 in
theorem zcd_X12_isFull : zcdB yX12_isFull.cls yX12_isFull.name (some .boolean) cX12_isFull zC_X12_isFull = true := by decide +kernel
set_option maxRecDepth 100000 in
theorem zcd_X12_hasBracket : zcdB yX12_hasBracket.cls yX12_hasBracket.name (some .boolean) cX12_hasBracket zC_X12_hasBracket = true := by decide +kernel
set_option maxRecDepth 100000 in
theorem zcd_X12_truth : zcdB yX12_truth.cls yX12_truth.name (some .int) cX12_truth zC_X12_truth = true := by decide +kernel
set_option maxRecDepth 100000 in
theorem zcd_X12_readSet : zcdB yX12_readSet.cls yX12_readSet.name none cX12_readSet zC_X12_readSet = true := by decide +kernel
set_option maxRecDepth 100000 in
theorem zcd_X12_readBan : zcdB yX12_readBan.cls yX12_readBan.name none cX12_readBan zC_X12_readBan = true := by decide +kernel
set_option maxRecDepth 100000 in
theorem zcd_X12_readAll : zcdB yX12_readAll.cls yX12_readAll.name none cX12_readAll zC_X12_readAll = true := by decide +kernel
set_option maxRecDepth 100000 in
theorem zcd_X12_doesRest : zcdB yX12_doesRest.cls yX12_doesRest.name (some .boolean) cX12_doesRest zC_X12_doesRest = true := by decide +kernel
set_option maxRecDepth 100000 in
theorem zcd_X12_brokenNow : zcdB yX12_brokenNow.cls yX12_brokenNow.name (some .int) cX12_brokenNow zC_X12_brokenNow = true := by decide +kernel
set_option maxRecDepth 100000 in
theorem zcd_X12_goalNow : zcdB yX12_goalNow.cls yX12_goalNow.name (some .int) cX12_goalNow zC_X12_goalNow = true := by decide +kernel
set_option maxRecDepth 100000 in
theorem zcd_X12_hours : zcdB yX12_hours.cls yX12_hours.name (some .int) cX12_hours zC_X12_hours = true := by decide +kernel
set_option maxRecDepth 100000 in
theorem zcd_X12_undo : zcdB yX12_undo.cls yX12_undo.name (some .boolean) cX12_undo zC_X12_undo = true := by decide +kernel
set_option maxRecDepth 100000 in
theorem zcd_X12_will : zcdB yX12_will.cls yX12_will.name (some .int) cX12_will zC_X12_will = true := by decide +kernel
set_option maxRecDepth 100000 in
theorem zcd_X12_isTrail : zcdB yX12_isTrail.cls yX12_isTrail.name (some .boolean) cX12_isTrail zC_X12_isTrail = true := by decide +kernel
set_option maxRecDepth 100000 in
theorem zcd_X12_round : zcdB yX12_round.cls yX12_round.name (some .int) cX12_round zC_X12_round = true := by decide +kernel
set_option maxRecDepth 100000 in
theorem zcd_X12_put : zcdB yX12_put.cls yX12_put.name none cX12_put zC_X12_put = true := by decide +kernel
set_option maxRecDepth 100000 in
theorem zcd_X12_beginCome : zcdB yX12_beginCome.cls yX12_beginCome.name none cX12_beginCome zC_X12_beginCome = true := by decide +kernel
set_option maxRecDepth 100000 in
theorem zcd_X12_goOn : zcdB yX12_goOn.cls yX12_goOn.name (some .boolean) cX12_goOn zC_X12_goOn = true := by decide +kernel
set_option maxRecDepth 100000 in
theorem zcd_X12_amendsTwo : zcdB yX12_amendsTwo.cls yX12_amendsTwo.name (some .boolean) cX12_amendsTwo zC_X12_amendsTwo = true := by decide +kernel

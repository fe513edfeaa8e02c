/-! Each instruction is what its row says. -/
set_option maxRecDepth 100000 in
theorem zcd_X0_forget : zcdB yX0_forget.cls yX0_forget.name none cX0_forget zC_X0_forget = true := by decide +kernel
set_option maxRecDepth 100000 in
theorem zcd_X0_note : zcdB yX0_note.cls yX0_note.name none cX0_note zC_X0_note = true := by decide +kernel
set_option maxRecDepth 100000 in
theorem zcd_X1_noteCrime : zcdB yX1_noteCrime.cls yX1_noteCrime.name none cX1_noteCrime zC_X1_noteCrime = true := by decide +kernel
set_option maxRecDepth 100000 in
theorem zcd_X1_save : zcdB yX1_save.cls yX1_save.name none cX1_save zC_X1_save = true := by decide +kernel
set_option maxRecDepth 100000 in
theorem zcd_X4_takeBack : zcdB yX4_takeBack.cls yX4_takeBack.name (some .boolean) cX4_takeBack zC_X4_takeBack = true := by decide +kernel
set_option maxRecDepth 100000 in
theorem zcd_X4_lastKnown : zcdB yX4_lastKnown.cls yX4_lastKnown.name (some .int) cX4_lastKnown zC_X4_lastKnown = true := by decide +kernel
set_option maxRecDepth 100000 in
theorem zcd_X5_readWeek : zcdB yX5_readWeek.cls yX5_readWeek.name (some .boolean) cX5_readWeek zC_X5_readWeek = true := by decide +kernel
set_option maxRecDepth 100000 in
theorem zcd_X5_readThing : zcdB yX5_readThing.cls yX5_readThing.name (some .boolean) cX5_readThing zC_X5_readThing = true := by decide +kernel
set_option maxRecDepth 100000 in
theorem zcd_X5_readFeast : zcdB yX5_readFeast.cls yX5_readFeast.name (some .boolean) cX5_readFeast zC_X5_readFeast = true := by decide +kernel
set_option maxRecDepth 100000 in
theorem zcd_X5_readActor : zcdB yX5_readActor.cls yX5_readActor.name (some .boolean) cX5_readActor zC_X5_readActor = true := by decide +kernel
set_option maxRecDepth 100000 in
theorem zcd_X5_readNot : zcdB yX5_readNot.cls yX5_readNot.name (some .boolean) cX5_readNot zC_X5_readNot = true := by decide +kernel
set_option maxRecDepth 100000 in
theorem zcd_X5_readNumber : zcdB yX5_readNumber.cls yX5_readNumber.name (some .boolean) cX5_readNumber zC_X5_readNumber = true := by decide +kernel
set_option maxRecDepth 100000 in
theorem zcd_X5_accept : zcdB yX5_accept.cls yX5_accept.name (some .boolean) cX5_accept zC_X5_accept = true := by decide +kernel
set_option maxRecDepth 100000 in
theorem zcd_X7_init : zcdB yX7_init.cls yX7_init.name none cX7_init zC_X7_init = true := by decide +kernel
set_option maxRecDepth 100000 in
theorem zcd_X7_tick : zcdB yX7_tick.cls yX7_tick.name none cX7_tick zC_X7_tick = true := by decide +kernel
set_option maxRecDepth 100000 in
theorem zcd_X8_seekGain : zcdB yX8_seekGain.cls yX8_seekGain.name none cX8_seekGain zC_X8_seekGain = true := by decide +kernel
set_option maxRecDepth 100000 in
theorem zcd_X9_isBlank : zcdB yX9_isBlank.cls yX9_isBlank.name (some .boolean) cX9_isBlank zC_X9_isBlank = true := by decide +kernel
set_option maxRecDepth 100000 in
theorem zcd_X9_isSign : zcdB yX9_isSign.cls yX9_isSign.name (some .boolean) cX9_isSign zC_X9_isSign = true := by decide +kernel
set_option maxRecDepth 100000 in
theorem zcd_X11_init : zcdB yX11_init.cls yX11_init.name none cX11_init zC_X11_init = true := by decide +kernel
set_option maxRecDepth 100000 in
theorem zcd_X11_thing : zcdB yX11_thing.cls yX11_thing.name (some .int) cX11_thing zC_X11_thing = true := by decide +kernel
set_option maxRecDepth 100000 in
theorem zcd_X11_deed : zcdB yX11_deed.cls yX11_deed.name (some .boolean) cX11_deed zC_X11_deed = true := by decide +kernel
set_option maxRecDepth 100000 in
theorem zcd_X11_leap : zcdB yX11_leap.cls yX11_leap.name (some .boolean) cX11_leap zC_X11_leap = true := by decide +kernel
set_option maxRecDepth 100000 in
theorem zcd_X11_plan : zcdB yX11_plan.cls yX11_plan.name (some .int) cX11_plan zC_X11_plan = true := by decide +kernel
set_option maxRecDepth 100000 in
theorem zcd_X11_most : zcdB yX11_most.cls yX11_most.name (some .int) cX11_most zC_X11_most = true := by decide +kernel
set_option maxRecDepth 100000 in
theorem zcd_X11_look : zcdB yX11_look.cls yX11_look.name (some .int) cX11_look zC_X11_look = true := by decide +kernel
set_option maxRecDepth 100000 in
theorem zcd_X11_back : zcdB yX11_back.cls yX11_back.name (some .int) cX11_back zC_X11_back = true := by decide +kernel
set_option maxRecDepth 100000 in
theorem zcd_X12_isDigit : zcdB yX12_isDigit.cls yX12_isDigit.name (some .boolean) cX12_isDigit zC_X12_isDigit = true := by decide +kernel
set_option maxRecDepth 100000 in
theorem zcd_X12_isSign : zcdB yX12_isSign.cls yX12_isSign.name (some .boolean) cX12_isSign zC_X12_isSign = true := by decide +kernel
set_option maxRecDepth 100000 in
theorem zcd_X12_newName : zcdB yX12_newName.cls yX12_newName.name none cX12_newName zC_X12_newName = true := by decide +kernel
set_option maxRecDepth 100000 in
theorem zcd_X12_done : zcdB yX12_done.cls yX12_done.name (some .int) cX12_done zC_X12_done = true := by decide +kernel
set_option maxRecDepth 100000 in
theorem zcd_X12_readWeek : zcdB yX12_readWeek.cls yX12_readWeek.name none cX12_readWeek zC_X12_readWeek = true := by decide +kernel
set_option maxRecDepth 100000 in
theorem zcd_X12_readLine : zcdB yX12_readLine.cls yX12_readLine.name none cX12_readLine zC_X12_readLine = true := by decide +kernel
set_option maxRecDepth 100000 in
theorem zcd_X12_isThing : zcdB yX12_isThing.cls yX12_isThing.name (some .boolean) cX12_isThing zC_X12_isThing = true := by decide +kernel
set_option maxRecDepth 100000 in
theorem zcd_X12_loadTold : zcdB yX12_loadTold.cls yX12_loadTold.name none cX12_loadTold zC_X12_loadTold = true := by decide +kernel
set_option maxRecDepth 100000 in
theorem zcd_X12_does : zcdB yX12_does.cls yX12_does.name (some .int) cX12_does zC_X12_does = true := by decide +kernel
set_option maxRecDepth 100000 in
theorem zcd_X12_says : zcdB yX12_says.cls yX12_says.name (some .int) cX12_says zC_X12_says = true := by decide +kernel
set_option maxRecDepth 100000 in
theorem zcd_X12_redo : zcdB yX12_redo.cls yX12_redo.name (some .boolean) cX12_redo zC_X12_redo = true := by decide +kernel
set_option maxRecDepth 100000 in
theorem zcd_X12_doTwo : zcdB yX12_doTwo.cls yX12_doTwo.name none cX12_doTwo zC_X12_doTwo = true := by decide +kernel
set_option maxRecDepth 100000 in
theorem zcd_X12_isCome : zcdB yX12_isCome.cls yX12_isCome.name (some .boolean) cX12_isCome zC_X12_isCome = true := by decide +kernel
set_option maxRecDepth 100000 in
theorem zcd_X12_plan : zcdB yX12_plan.cls yX12_plan.name (some .int) cX12_plan zC_X12_plan = true := by decide +kernel
set_option maxRecDepth 100000 in
theorem zcd_X12_calendars : zcdB yX12_calendars.cls yX12_calendars.name (some .int) cX12_calendars zC_X12_calendars = true := by decide +kernel
set_option maxRecDepth 100000 in
theorem zcd_X12_wanted : zcdB yX12_wanted.cls yX12_wanted.name (some .int) cX12_wanted zC_X12_wanted = true := by decide +kernel
set_option maxRecDepth 100000 in
theorem zcd_X12_more : zcdB yX12_more.cls yX12_more.name (some .int) cX12_more zC_X12_more = true := by decide +kernel
set_option maxRecDepth 100000 in
theorem zcd_X12_untell : zcdB yX12_untell.cls yX12_untell.name (some .boolean) cX12_untell zC_X12_untell = true := by decide +kernel
set_option maxRecDepth 100000 in
theorem zcd_X12_lastHour : zcdB yX12_lastHour.cls yX12_lastHour.name (some .int) cX12_lastHour zC_X12_lastHour = true := by decide +kernel
set_option maxRecDepth 100000 in
theorem zcd_X12_ask : zcdB yX12_ask.cls yX12_ask.name (some .int) cX12_ask zC_X12_ask = true := by decide +kernel

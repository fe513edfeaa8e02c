/-! Each instruction is what its row says. -/
set_option maxRecDepth 100000 in
theorem zcd_X0_note : zcdB yX0_note.cls yX0_note.name none cX0_note zC_X0_note = true := by decide +kernel
set_option maxRecDepth 100000 in
theorem zcd_X2_asKnown : zcdB yX2_asKnown.cls yX2_asKnown.name (some .boolean) cX2_asKnown zC_X2_asKnown = true := by decide +kernel
set_option maxRecDepth 100000 in
theorem zcd_X7_tick : zcdB yX7_tick.cls yX7_tick.name none cX7_tick zC_X7_tick = true := by decide +kernel
set_option maxRecDepth 100000 in
theorem zcd_X9_init : zcdB yX9_init.cls yX9_init.name none cX9_init zC_X9_init = true := by decide +kernel
set_option maxRecDepth 100000 in
theorem zcd_X9_cut : zcdB yX9_cut.cls yX9_cut.name none cX9_cut zC_X9_cut = true := by decide +kernel
set_option maxRecDepth 100000 in
theorem zcd_X11_init : zcdB yX11_init.cls yX11_init.name none cX11_init zC_X11_init = true := by decide +kernel
set_option maxRecDepth 100000 in
theorem zcd_X11_broken : zcdB yX11_broken.cls yX11_broken.name (some .int) cX11_broken zC_X11_broken = true := by decide +kernel
set_option maxRecDepth 100000 in
theorem zcd_X11_says : zcdB yX11_says.cls yX11_says.name (some .int) cX11_says zC_X11_says = true := by decide +kernel
set_option maxRecDepth 100000 in
theorem zcd_X11_leap : zcdB yX11_leap.cls yX11_leap.name (some .boolean) cX11_leap zC_X11_leap = true := by decide +kernel
set_option maxRecDepth 100000 in
theorem zcd_X11_undo : zcdB yX11_undo.cls yX11_undo.name (some .boolean) cX11_undo zC_X11_undo = true := by decide +kernel
set_option maxRecDepth 100000 in
theorem zcd_X11_will : zcdB yX11_will.cls yX11_will.name (some .int) cX11_will zC_X11_will = true := by decide +kernel
set_option maxRecDepth 100000 in
theorem zcd_X11_loophole : zcdB yX11_loophole.cls yX11_loophole.name (some .int) cX11_loophole zC_X11_loophole = true := by decide +kernel
set_option maxRecDepth 100000 in
theorem zcd_X11_canWish : zcdB yX11_canWish.cls yX11_canWish.name (some .boolean) cX11_canWish zC_X11_canWish = true := by decide +kernel
set_option maxRecDepth 100000 in
theorem zcd_X12_feed : zcdB yX12_feed.cls yX12_feed.name (some .int) cX12_feed zC_X12_feed = true := by decide +kernel
set_option maxRecDepth 100000 in
theorem zcd_X12_end : zcdB yX12_end.cls yX12_end.name (some .int) cX12_end zC_X12_end = true := by decide +kernel
set_option maxRecDepth 100000 in
theorem zcd_X12_keep : zcdB yX12_keep.cls yX12_keep.name none cX12_keep zC_X12_keep = true := by decide +kernel
set_option maxRecDepth 100000 in
theorem zcd_X12_loadTold : zcdB yX12_loadTold.cls yX12_loadTold.name none cX12_loadTold zC_X12_loadTold = true := by decide +kernel
set_option maxRecDepth 100000 in
theorem zcd_X12_goHours : zcdB yX12_goHours.cls yX12_goHours.name none cX12_goHours zC_X12_goHours = true := by decide +kernel
set_option maxRecDepth 100000 in
theorem zcd_X12_broken : zcdB yX12_broken.cls yX12_broken.name (some .int) cX12_broken zC_X12_broken = true := by decide +kernel
set_option maxRecDepth 100000 in
theorem zcd_X12_gainNow : zcdB yX12_gainNow.cls yX12_gainNow.name (some .int) cX12_gainNow zC_X12_gainNow = true := by decide +kernel
set_option maxRecDepth 100000 in
theorem zcd_X12_clash : zcdB yX12_clash.cls yX12_clash.name (some .int) cX12_clash zC_X12_clash = true := by decide +kernel
set_option maxRecDepth 100000 in
theorem zcd_X12_loophole : zcdB yX12_loophole.cls yX12_loophole.name (some .int) cX12_loophole zC_X12_loophole = true := by decide +kernel
set_option maxRecDepth 100000 in
theorem zcd_X12_layCalendar : zcdB yX12_layCalendar.cls yX12_layCalendar.name none cX12_layCalendar zC_X12_layCalendar = true := by decide +kernel
set_option maxRecDepth 100000 in
theorem zcd_X12_look : zcdB yX12_look.cls yX12_look.name (some .int) cX12_look zC_X12_look = true := by decide +kernel
set_option maxRecDepth 100000 in
theorem zcd_X12_untell : zcdB yX12_untell.cls yX12_untell.name (some .boolean) cX12_untell zC_X12_untell = true := by decide +kernel
set_option maxRecDepth 100000 in
theorem zcd_X12_later : zcdB yX12_later.cls yX12_later.name (some .int) cX12_later zC_X12_later = true := by decide +kernel
set_option maxRecDepth 100000 in
theorem zcd_X12_back : zcdB yX12_back.cls yX12_back.name (some .int) cX12_back zC_X12_back = true := by decide +kernel
set_option maxRecDepth 100000 in
theorem zcd_J7_fill_53178 : zcdB yJ7_fill_53178.cls yJ7_fill_53178.name none cJ7_fill_53178 zC_J7_fill_53178 = true := by decide +kernel

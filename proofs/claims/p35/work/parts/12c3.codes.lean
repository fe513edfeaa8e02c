/-! Each instruction is what its row says. -/
set_option maxRecDepth 100000 in
theorem zcd_X0_goTo : zcdB yX0_goTo.cls yX0_goTo.name (some .boolean) cX0_goTo zC_X0_goTo = true := by decide +kernel
set_option maxRecDepth 100000 in
theorem zcd_X1_begin : zcdB yX1_begin.cls yX1_begin.name none cX1_begin zC_X1_begin = true := by decide +kernel
set_option maxRecDepth 100000 in
theorem zcd_X2_fitting : zcdB yX2_fitting.cls yX2_fitting.name (some .boolean) cX2_fitting zC_X2_fitting = true := by decide +kernel
set_option maxRecDepth 100000 in
theorem zcd_X3_tells : zcdB yX3_tells.cls yX3_tells.name (some .boolean) cX3_tells zC_X3_tells = true := by decide +kernel
set_option maxRecDepth 100000 in
theorem zcd_X4_tell : zcdB yX4_tell.cls yX4_tell.name (some .int) cX4_tell zC_X4_tell = true := by decide +kernel
set_option maxRecDepth 100000 in
theorem zcd_X4_passTime : zcdB yX4_passTime.cls yX4_passTime.name (some .int) cX4_passTime zC_X4_passTime = true := by decide +kernel
set_option maxRecDepth 100000 in
theorem zcd_X5_init : zcdB yX5_init.cls yX5_init.name none cX5_init zC_X5_init = true := by decide +kernel
set_option maxRecDepth 100000 in
theorem zcd_X5_readBan : zcdB yX5_readBan.cls yX5_readBan.name (some .boolean) cX5_readBan zC_X5_readBan = true := by decide +kernel
set_option maxRecDepth 100000 in
theorem zcd_X5_readKnownName : zcdB yX5_readKnownName.cls yX5_readKnownName.name (some .boolean) cX5_readKnownName zC_X5_readKnownName = true := by decide +kernel
set_option maxRecDepth 100000 in
theorem zcd_X6_comesRound : zcdB yX6_comesRound.cls yX6_comesRound.name (some .boolean) cX6_comesRound zC_X6_comesRound = true := by decide +kernel
set_option maxRecDepth 100000 in
theorem zcd_X7_nextCalendar : zcdB yX7_nextCalendar.cls yX7_nextCalendar.name none cX7_nextCalendar zC_X7_nextCalendar = true := by decide +kernel
set_option maxRecDepth 100000 in
theorem zcd_X8_fewestHours : zcdB yX8_fewestHours.cls yX8_fewestHours.name (some .int) cX8_fewestHours zC_X8_fewestHours = true := by decide +kernel
set_option maxRecDepth 100000 in
theorem zcd_X8_tryDeed : zcdB yX8_tryDeed.cls yX8_tryDeed.name none cX8_tryDeed zC_X8_tryDeed = true := by decide +kernel
set_option maxRecDepth 100000 in
theorem zcd_X9_cutNumber : zcdB yX9_cutNumber.cls yX9_cutNumber.name (some .int) cX9_cutNumber zC_X9_cutNumber = true := by decide +kernel
set_option maxRecDepth 100000 in
theorem zcd_X9_wordKind : zcdB yX9_wordKind.cls yX9_wordKind.name (some .int) cX9_wordKind zC_X9_wordKind = true := by decide +kernel
set_option maxRecDepth 100000 in
theorem zcd_X10_fewestShifts : zcdB yX10_fewestShifts.cls yX10_fewestShifts.name (some .int) cX10_fewestShifts zC_X10_fewestShifts = true := by decide +kernel
set_option maxRecDepth 100000 in
theorem zcd_X10_oneShiftWill : zcdB yX10_oneShiftWill.cls yX10_oneShiftWill.name (some .boolean) cX10_oneShiftWill zC_X10_oneShiftWill = true := by decide +kernel
set_option maxRecDepth 100000 in
theorem zcd_X10_wantedBy : zcdB yX10_wantedBy.cls yX10_wantedBy.name (some .int) cX10_wantedBy zC_X10_wantedBy = true := by decide +kernel
set_option maxRecDepth 100000 in
theorem zcd_X11_end : zcdB yX11_end.cls yX11_end.name (some .int) cX11_end zC_X11_end = true := by decide +kernel
set_option maxRecDepth 100000 in
theorem zcd_X11_fault : zcdB yX11_fault.cls yX11_fault.name (some .int) cX11_fault zC_X11_fault = true := by decide +kernel
set_option maxRecDepth 100000 in
theorem zcd_X11_redo : zcdB yX11_redo.cls yX11_redo.name (some .boolean) cX11_redo zC_X11_redo = true := by decide +kernel
set_option maxRecDepth 100000 in
theorem zcd_X11_will : zcdB yX11_will.cls yX11_will.name (some .int) cX11_will zC_X11_will = true := by decide +kernel
set_option maxRecDepth 100000 in
theorem zcd_X11_clash : zcdB yX11_clash.cls yX11_clash.name (some .int) cX11_clash zC_X11_clash = true := by decide +kernel
set_option maxRecDepth 100000 in
theorem zcd_X11_guilds : zcdB yX11_guilds.cls yX11_guilds.name (some .int) cX11_guilds zC_X11_guilds = true := by decide +kernel
set_option maxRecDepth 100000 in
theorem zcd_X11_untell : zcdB yX11_untell.cls yX11_untell.name (some .boolean) cX11_untell zC_X11_untell = true := by decide +kernel
set_option maxRecDepth 100000 in
theorem zcd_X12_four : zcdB yX12_four.cls yX12_four.name none cX12_four zC_X12_four = true := by decide +kernel
set_option maxRecDepth 100000 in
theorem zcd_X12_tight : zcdB yX12_tight.cls yX12_tight.name (some .int) cX12_tight zC_X12_tight = true := by decide +kernel
set_option maxRecDepth 100000 in
theorem zcd_X12_mayNot : zcdB yX12_mayNot.cls yX12_mayNot.name (some .boolean) cX12_mayNot zC_X12_mayNot = true := by decide +kernel
set_option maxRecDepth 100000 in
theorem zcd_X12_readLaw : zcdB yX12_readLaw.cls yX12_readLaw.name none cX12_readLaw zC_X12_readLaw = true := by decide +kernel
set_option maxRecDepth 100000 in
theorem zcd_X12_readDeed : zcdB yX12_readDeed.cls yX12_readDeed.name none cX12_readDeed zC_X12_readDeed = true := by decide +kernel
set_option maxRecDepth 100000 in
theorem zcd_X12_readGuild : zcdB yX12_readGuild.cls yX12_readGuild.name none cX12_readGuild zC_X12_readGuild = true := by decide +kernel
set_option maxRecDepth 100000 in
theorem zcd_X12_land : zcdB yX12_land.cls yX12_land.name (some .int) cX12_land zC_X12_land = true := by decide +kernel
set_option maxRecDepth 100000 in
theorem zcd_X12_keep : zcdB yX12_keep.cls yX12_keep.name none cX12_keep zC_X12_keep = true := by decide +kernel
set_option maxRecDepth 100000 in
theorem zcd_X12_doLaws : zcdB yX12_doLaws.cls yX12_doLaws.name none cX12_doLaws zC_X12_doLaws = true := by decide +kernel
set_option maxRecDepth 100000 in
theorem zcd_X12_feast : zcdB yX12_feast.cls yX12_feast.name (some .int) cX12_feast zC_X12_feast = true := by decide +kernel
set_option maxRecDepth 100000 in
theorem zcd_X12_broken : zcdB yX12_broken.cls yX12_broken.name (some .int) cX12_broken zC_X12_broken = true := by decide +kernel
set_option maxRecDepth 100000 in
theorem zcd_X12_gainNow : zcdB yX12_gainNow.cls yX12_gainNow.name (some .int) cX12_gainNow zC_X12_gainNow = true := by decide +kernel
set_option maxRecDepth 100000 in
theorem zcd_X12_act : zcdB yX12_act.cls yX12_act.name none cX12_act zC_X12_act = true := by decide +kernel
set_option maxRecDepth 100000 in
theorem zcd_X12_exchange : zcdB yX12_exchange.cls yX12_exchange.name none cX12_exchange zC_X12_exchange = true := by decide +kernel
set_option maxRecDepth 100000 in
theorem zcd_X12_clash : zcdB yX12_clash.cls yX12_clash.name (some .int) cX12_clash zC_X12_clash = true := by decide +kernel
set_option maxRecDepth 100000 in
theorem zcd_X12_layCalendar : zcdB yX12_layCalendar.cls yX12_layCalendar.name none cX12_layCalendar zC_X12_layCalendar = true := by decide +kernel
set_option maxRecDepth 100000 in
theorem zcd_X12_fullest : zcdB yX12_fullest.cls yX12_fullest.name (some .int) cX12_fullest zC_X12_fullest = true := by decide +kernel
set_option maxRecDepth 100000 in
theorem zcd_X12_isBox : zcdB yX12_isBox.cls yX12_isBox.name (some .boolean) cX12_isBox zC_X12_isBox = true := by decide +kernel
set_option maxRecDepth 100000 in
theorem zcd_X12_back : zcdB yX12_back.cls yX12_back.name (some .int) cX12_back zC_X12_back = true := by decide +kernel
set_option maxRecDepth 100000 in
theorem zcd_X12_about : zcdB yX12_about.cls yX12_about.name (some .int) cX12_about zC_X12_about = true := by decide +kernel

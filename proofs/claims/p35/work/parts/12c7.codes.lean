/-! Each instruction is what its row says. -/
set_option maxRecDepth 100000 in
theorem zcd_X1_load : zcdB yX1_load.cls yX1_load.name none cX1_load zC_X1_load = true := by decide +kernel
set_option maxRecDepth 100000 in
theorem zcd_X2_asKnown : zcdB yX2_asKnown.cls yX2_asKnown.name (some .boolean) cX2_asKnown zC_X2_asKnown = true := by decide +kernel
set_option maxRecDepth 100000 in
theorem zcd_X2_noteFit : zcdB yX2_noteFit.cls yX2_noteFit.name none cX2_noteFit zC_X2_noteFit = true := by decide +kernel
set_option maxRecDepth 100000 in
theorem zcd_X3_empty : zcdB yX3_empty.cls yX3_empty.name none cX3_empty zC_X3_empty = true := by decide +kernel
set_option maxRecDepth 100000 in
theorem zcd_X5_readGuild : zcdB yX5_readGuild.cls yX5_readGuild.name (some .boolean) cX5_readGuild zC_X5_readGuild = true := by decide +kernel
set_option maxRecDepth 100000 in
theorem zcd_X5_readLevel : zcdB yX5_readLevel.cls yX5_readLevel.name (some .boolean) cX5_readLevel zC_X5_readLevel = true := by decide +kernel
set_option maxRecDepth 100000 in
theorem zcd_X5_joint : zcdB yX5_joint.cls yX5_joint.name (some .int) cX5_joint zC_X5_joint = true := by decide +kernel
set_option maxRecDepth 100000 in
theorem zcd_X5_readNewName : zcdB yX5_readNewName.cls yX5_readNewName.name (some .boolean) cX5_readNewName zC_X5_readNewName = true := by decide +kernel
set_option maxRecDepth 100000 in
theorem zcd_X7_perform : zcdB yX7_perform.cls yX7_perform.name none cX7_perform zC_X7_perform = true := by decide +kernel
set_option maxRecDepth 100000 in
theorem zcd_X7_takeTurn : zcdB yX7_takeTurn.cls yX7_takeTurn.name none cX7_takeTurn zC_X7_takeTurn = true := by decide +kernel
set_option maxRecDepth 100000 in
theorem zcd_X7_brokenBans : zcdB yX7_brokenBans.cls yX7_brokenBans.name (some .int) cX7_brokenBans zC_X7_brokenBans = true := by decide +kernel
set_option maxRecDepth 100000 in
theorem zcd_X7_packed : zcdB yX7_packed.cls yX7_packed.name (some .long) cX7_packed zC_X7_packed = true := by decide +kernel
set_option maxRecDepth 100000 in
theorem zcd_X8_findGoal : zcdB yX8_findGoal.cls yX8_findGoal.name none cX8_findGoal zC_X8_findGoal = true := by decide +kernel
set_option maxRecDepth 100000 in
theorem zcd_X8_widen : zcdB yX8_widen.cls yX8_widen.name none cX8_widen zC_X8_widen = true := by decide +kernel
set_option maxRecDepth 100000 in
theorem zcd_X8_add : zcdB yX8_add.cls yX8_add.name none cX8_add zC_X8_add = true := by decide +kernel
set_option maxRecDepth 100000 in
theorem zcd_X8_layDeeds : zcdB yX8_layDeeds.cls yX8_layDeeds.name (some .int) cX8_layDeeds zC_X8_layDeeds = true := by decide +kernel
set_option maxRecDepth 100000 in
theorem zcd_X9_isLetter : zcdB yX9_isLetter.cls yX9_isLetter.name (some .boolean) cX9_isLetter zC_X9_isLetter = true := by decide +kernel
set_option maxRecDepth 100000 in
theorem zcd_X10_init : zcdB yX10_init.cls yX10_init.name none cX10_init zC_X10_init = true := by decide +kernel
set_option maxRecDepth 100000 in
theorem zcd_X10_aim : zcdB yX10_aim.cls yX10_aim.name none cX10_aim zC_X10_aim = true := by decide +kernel
set_option maxRecDepth 100000 in
theorem zcd_X10_comesTrue : zcdB yX10_comesTrue.cls yX10_comesTrue.name (some .boolean) cX10_comesTrue zC_X10_comesTrue = true := by decide +kernel
set_option maxRecDepth 100000 in
theorem zcd_X11_putBytes : zcdB yX11_putBytes.cls yX11_putBytes.name none cX11_putBytes zC_X11_putBytes = true := by decide +kernel
set_option maxRecDepth 100000 in
theorem zcd_X11_can : zcdB yX11_can.cls yX11_can.name (some .int) cX11_can zC_X11_can = true := by decide +kernel
set_option maxRecDepth 100000 in
theorem zcd_X11_says : zcdB yX11_says.cls yX11_says.name (some .int) cX11_says zC_X11_says = true := by decide +kernel
set_option maxRecDepth 100000 in
theorem zcd_X11_loophole : zcdB yX11_loophole.cls yX11_loophole.name (some .int) cX11_loophole zC_X11_loophole = true := by decide +kernel
set_option maxRecDepth 100000 in
theorem zcd_X11_rests : zcdB yX11_rests.cls yX11_rests.name (some .int) cX11_rests zC_X11_rests = true := by decide +kernel
set_option maxRecDepth 100000 in
theorem zcd_X11_image : zcdB yX11_image.cls yX11_image.name (some .int) cX11_image zC_X11_image = true := by decide +kernel
set_option maxRecDepth 100000 in
theorem zcd_X12_isLetter : zcdB yX12_isLetter.cls yX12_isLetter.name (some .boolean) cX12_isLetter zC_X12_isLetter = true := by decide +kernel
set_option maxRecDepth 100000 in
theorem zcd_X12_isWord : zcdB yX12_isWord.cls yX12_isWord.name (some .boolean) cX12_isWord zC_X12_isWord = true := by decide +kernel
set_option maxRecDepth 100000 in
theorem zcd_X12_oldName : zcdB yX12_oldName.cls yX12_oldName.name (some .int) cX12_oldName zC_X12_oldName = true := by decide +kernel
set_option maxRecDepth 100000 in
theorem zcd_X12_unit : zcdB yX12_unit.cls yX12_unit.name none cX12_unit zC_X12_unit = true := by decide +kernel
set_option maxRecDepth 100000 in
theorem zcd_X12_formula : zcdB yX12_formula.cls yX12_formula.name none cX12_formula zC_X12_formula = true := by decide +kernel
set_option maxRecDepth 100000 in
theorem zcd_X12_askOf : zcdB yX12_askOf.cls yX12_askOf.name (some .int) cX12_askOf zC_X12_askOf = true := by decide +kernel
set_option maxRecDepth 100000 in
theorem zcd_X12_fault : zcdB yX12_fault.cls yX12_fault.name (some .int) cX12_fault zC_X12_fault = true := by decide +kernel
set_option maxRecDepth 100000 in
theorem zcd_X12_isDeed : zcdB yX12_isDeed.cls yX12_isDeed.name (some .boolean) cX12_isDeed zC_X12_isDeed = true := by decide +kernel
set_option maxRecDepth 100000 in
theorem zcd_X12_tick : zcdB yX12_tick.cls yX12_tick.name none cX12_tick zC_X12_tick = true := by decide +kernel
set_option maxRecDepth 100000 in
theorem zcd_X12_thing : zcdB yX12_thing.cls yX12_thing.name (some .int) cX12_thing zC_X12_thing = true := by decide +kernel
set_option maxRecDepth 100000 in
theorem zcd_X12_deed : zcdB yX12_deed.cls yX12_deed.name (some .boolean) cX12_deed zC_X12_deed = true := by decide +kernel
set_option maxRecDepth 100000 in
theorem zcd_X12_shift : zcdB yX12_shift.cls yX12_shift.name (some .int) cX12_shift zC_X12_shift = true := by decide +kernel
set_option maxRecDepth 100000 in
theorem zcd_X12_leap : zcdB yX12_leap.cls yX12_leap.name (some .boolean) cX12_leap zC_X12_leap = true := by decide +kernel
set_option maxRecDepth 100000 in
theorem zcd_X12_crime : zcdB yX12_crime.cls yX12_crime.name (some .int) cX12_crime zC_X12_crime = true := by decide +kernel
set_option maxRecDepth 100000 in
theorem zcd_X12_loadCome : zcdB yX12_loadCome.cls yX12_loadCome.name none cX12_loadCome zC_X12_loadCome = true := by decide +kernel
set_option maxRecDepth 100000 in
theorem zcd_X12_layWish : zcdB yX12_layWish.cls yX12_layWish.name (some .boolean) cX12_layWish zC_X12_layWish = true := by decide +kernel
set_option maxRecDepth 100000 in
theorem zcd_X12_all : zcdB yX12_all.cls yX12_all.name (some .int) cX12_all zC_X12_all = true := by decide +kernel
set_option maxRecDepth 100000 in
theorem zcd_X12_look : zcdB yX12_look.cls yX12_look.name (some .int) cX12_look zC_X12_look = true := by decide +kernel
set_option maxRecDepth 100000 in
theorem zcd_X12_counts : zcdB yX12_counts.cls yX12_counts.name (some .boolean) cX12_counts zC_X12_counts = true := by decide +kernel
set_option maxRecDepth 100000 in
theorem zcd_J7_fill_53178 : zcdB yJ7_fill_53178.cls yJ7_fill_53178.name none cJ7_fill_53178 zC_J7_fill_53178 = true := by decide +kernel

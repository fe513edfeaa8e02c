/-! Each instruction is what its row says. -/
set_option maxRecDepth 100000 in
theorem zcd_X1_save : zcdB yX1_save.cls yX1_save.name none cX1_save zC_X1_save = true := by decide +kernel
set_option maxRecDepth 100000 in
theorem zcd_X2_init : zcdB yX2_init.cls yX2_init.name none cX2_init zC_X2_init = true := by decide +kernel
set_option maxRecDepth 100000 in
theorem zcd_X3_empty : zcdB yX3_empty.cls yX3_empty.name none cX3_empty zC_X3_empty = true := by decide +kernel
set_option maxRecDepth 100000 in
theorem zcd_X3_tells : zcdB yX3_tells.cls yX3_tells.name (some .boolean) cX3_tells zC_X3_tells = true := by decide +kernel
set_option maxRecDepth 100000 in
theorem zcd_X4_init : zcdB yX4_init.cls yX4_init.name none cX4_init zC_X4_init = true := by decide +kernel
set_option maxRecDepth 100000 in
theorem zcd_X4_tell : zcdB yX4_tell.cls yX4_tell.name (some .int) cX4_tell zC_X4_tell = true := by decide +kernel
set_option maxRecDepth 100000 in
theorem zcd_X4_takeBack : zcdB yX4_takeBack.cls yX4_takeBack.name (some .boolean) cX4_takeBack zC_X4_takeBack = true := by decide +kernel
set_option maxRecDepth 100000 in
theorem zcd_X7_brokenBans : zcdB yX7_brokenBans.cls yX7_brokenBans.name (some .int) cX7_brokenBans zC_X7_brokenBans = true := by decide +kernel
set_option maxRecDepth 100000 in
theorem zcd_X7_packed : zcdB yX7_packed.cls yX7_packed.name (some .long) cX7_packed zC_X7_packed = true := by decide +kernel
set_option maxRecDepth 100000 in
theorem zcd_X11_end : zcdB yX11_end.cls yX11_end.name (some .int) cX11_end zC_X11_end = true := by decide +kernel
set_option maxRecDepth 100000 in
theorem zcd_X11_thing : zcdB yX11_thing.cls yX11_thing.name (some .int) cX11_thing zC_X11_thing = true := by decide +kernel
set_option maxRecDepth 100000 in
theorem zcd_X11_does : zcdB yX11_does.cls yX11_does.name (some .int) cX11_does zC_X11_does = true := by decide +kernel
set_option maxRecDepth 100000 in
theorem zcd_X11_hours : zcdB yX11_hours.cls yX11_hours.name (some .int) cX11_hours zC_X11_hours = true := by decide +kernel
set_option maxRecDepth 100000 in
theorem zcd_X11_deed : zcdB yX11_deed.cls yX11_deed.name (some .boolean) cX11_deed zC_X11_deed = true := by decide +kernel
set_option maxRecDepth 100000 in
theorem zcd_X11_redo : zcdB yX11_redo.cls yX11_redo.name (some .boolean) cX11_redo zC_X11_redo = true := by decide +kernel
set_option maxRecDepth 100000 in
theorem zcd_X11_guilds : zcdB yX11_guilds.cls yX11_guilds.name (some .int) cX11_guilds zC_X11_guilds = true := by decide +kernel
set_option maxRecDepth 100000 in
theorem zcd_X11_fit : zcdB yX11_fit.cls yX11_fit.name (some .int) cX11_fit zC_X11_fit = true := by decide +kernel
set_option maxRecDepth 100000 in
theorem zcd_X11_ask : zcdB yX11_ask.cls yX11_ask.name (some .int) cX11_ask zC_X11_ask = true := by decide +kernel
set_option maxRecDepth 100000 in
theorem zcd_X11_about : zcdB yX11_about.cls yX11_about.name (some .int) cX11_about zC_X11_about = true := by decide +kernel
set_option maxRecDepth 100000 in
theorem zcd_X12_token : zcdB yX12_token.cls yX12_token.name none cX12_token zC_X12_token = true := by decide +kernel
set_option maxRecDepth 100000 in
theorem zcd_X12_readAll : zcdB yX12_readAll.cls yX12_readAll.name none cX12_readAll zC_X12_readAll = true := by decide +kernel
set_option maxRecDepth 100000 in
theorem zcd_X12_isThing : zcdB yX12_isThing.cls yX12_isThing.name (some .boolean) cX12_isThing zC_X12_isThing = true := by decide +kernel
set_option maxRecDepth 100000 in
theorem zcd_X12_act : zcdB yX12_act.cls yX12_act.name none cX12_act zC_X12_act = true := by decide +kernel
set_option maxRecDepth 100000 in
theorem zcd_X12_redo : zcdB yX12_redo.cls yX12_redo.name (some .boolean) cX12_redo zC_X12_redo = true := by decide +kernel
set_option maxRecDepth 100000 in
theorem zcd_X12_crime : zcdB yX12_crime.cls yX12_crime.name (some .int) cX12_crime zC_X12_crime = true := by decide +kernel
set_option maxRecDepth 100000 in
theorem zcd_X12_layWish : zcdB yX12_layWish.cls yX12_layWish.name (some .boolean) cX12_layWish zC_X12_layWish = true := by decide +kernel
set_option maxRecDepth 100000 in
theorem zcd_X12_about : zcdB yX12_about.cls yX12_about.name (some .int) cX12_about zC_X12_about = true := by decide +kernel

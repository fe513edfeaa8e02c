/-! Each instruction is what its row says. -/
set_option maxRecDepth 100000 in
theorem zcd_X0_init : zcdB yX0_init.cls yX0_init.name none cX0_init zC_X0_init = true := by decide +kernel
set_option maxRecDepth 100000 in
theorem zcd_X1_init : zcdB yX1_init.cls yX1_init.name none cX1_init zC_X1_init = true := by decide +kernel
set_option maxRecDepth 100000 in
theorem zcd_X1_passHours : zcdB yX1_passHours.cls yX1_passHours.name none cX1_passHours zC_X1_passHours = true := by decide +kernel
set_option maxRecDepth 100000 in
theorem zcd_X2_sift : zcdB yX2_sift.cls yX2_sift.name (some .int) cX2_sift zC_X2_sift = true := by decide +kernel
set_option maxRecDepth 100000 in
theorem zcd_X3_has : zcdB yX3_has.cls yX3_has.name (some .boolean) cX3_has zC_X3_has = true := by decide +kernel
set_option maxRecDepth 100000 in
theorem zcd_X3_addCode : zcdB yX3_addCode.cls yX3_addCode.name none cX3_addCode zC_X3_addCode = true := by decide +kernel
set_option maxRecDepth 100000 in
theorem zcd_X4_counts : zcdB yX4_counts.cls yX4_counts.name (some .boolean) cX4_counts zC_X4_counts = true := by decide +kernel
set_option maxRecDepth 100000 in
theorem zcd_X5_readDeed : zcdB yX5_readDeed.cls yX5_readDeed.name (some .boolean) cX5_readDeed zC_X5_readDeed = true := by decide +kernel
set_option maxRecDepth 100000 in
theorem zcd_X6_note : zcdB yX6_note.cls yX6_note.name none cX6_note zC_X6_note = true := by decide +kernel
set_option maxRecDepth 100000 in
theorem zcd_X7_copy : zcdB yX7_copy.cls yX7_copy.name none cX7_copy zC_X7_copy = true := by decide +kernel
set_option maxRecDepth 100000 in
theorem zcd_X7_resting : zcdB yX7_resting.cls yX7_resting.name (some .boolean) cX7_resting zC_X7_resting = true := by decide +kernel
set_option maxRecDepth 100000 in
theorem zcd_X7_unpack : zcdB yX7_unpack.cls yX7_unpack.name none cX7_unpack zC_X7_unpack = true := by decide +kernel
set_option maxRecDepth 100000 in
theorem zcd_X8_keep : zcdB yX8_keep.cls yX8_keep.name none cX8_keep zC_X8_keep = true := by decide +kernel
set_option maxRecDepth 100000 in
theorem zcd_X8_slotOf : zcdB yX8_slotOf.cls yX8_slotOf.name (some .int) cX8_slotOf zC_X8_slotOf = true := by decide +kernel
set_option maxRecDepth 100000 in
theorem zcd_X9_cutWord : zcdB yX9_cutWord.cls yX9_cutWord.name (some .int) cX9_cutWord zC_X9_cutWord = true := by decide +kernel
set_option maxRecDepth 100000 in
theorem zcd_X10_shiftOf : zcdB yX10_shiftOf.cls yX10_shiftOf.name (some .int) cX10_shiftOf zC_X10_shiftOf = true := by decide +kernel
set_option maxRecDepth 100000 in
theorem zcd_X11_beginAnew : zcdB yX11_beginAnew.cls yX11_beginAnew.name none cX11_beginAnew zC_X11_beginAnew = true := by decide +kernel
set_option maxRecDepth 100000 in
theorem zcd_X11_feast : zcdB yX11_feast.cls yX11_feast.name (some .int) cX11_feast zC_X11_feast = true := by decide +kernel
set_option maxRecDepth 100000 in
theorem zcd_X11_broken : zcdB yX11_broken.cls yX11_broken.name (some .int) cX11_broken zC_X11_broken = true := by decide +kernel
set_option maxRecDepth 100000 in
theorem zcd_X11_crime : zcdB yX11_crime.cls yX11_crime.name (some .int) cX11_crime zC_X11_crime = true := by decide +kernel
set_option maxRecDepth 100000 in
theorem zcd_X11_outcome : zcdB yX11_outcome.cls yX11_outcome.name (some .long) cX11_outcome zC_X11_outcome = true := by decide +kernel
set_option maxRecDepth 100000 in
theorem zcd_X11_all : zcdB yX11_all.cls yX11_all.name (some .int) cX11_all zC_X11_all = true := by decide +kernel
set_option maxRecDepth 100000 in
theorem zcd_X11_canWish : zcdB yX11_canWish.cls yX11_canWish.name (some .boolean) cX11_canWish zC_X11_canWish = true := by decide +kernel
set_option maxRecDepth 100000 in
theorem zcd_X11_more : zcdB yX11_more.cls yX11_more.name (some .int) cX11_more zC_X11_more = true := by decide +kernel
set_option maxRecDepth 100000 in
theorem zcd_X11_about : zcdB yX11_about.cls yX11_about.name (some .int) cX11_about zC_X11_about = true := by decide +kernel
set_option maxRecDepth 100000 in
theorem zcd_X12_init : zcdB yX12_init.cls yX12_init.name none cX12_init zC_X12_init = true := by decide +kernel
set_option maxRecDepth 100000 in
theorem zcd_X12_feed : zcdB yX12_feed.cls yX12_feed.name (some .int) cX12_feed zC_X12_feed = true := by decide +kernel
set_option maxRecDepth 100000 in
theorem zcd_X12_isName : zcdB yX12_isName.cls yX12_isName.name (some .boolean) cX12_isName zC_X12_isName = true := by decide +kernel
set_option maxRecDepth 100000 in
theorem zcd_X12_toldNumber : zcdB yX12_toldNumber.cls yX12_toldNumber.name (some .int) cX12_toldNumber zC_X12_toldNumber = true := by decide +kernel
set_option maxRecDepth 100000 in
theorem zcd_X12_countUnit : zcdB yX12_countUnit.cls yX12_countUnit.name none cX12_countUnit zC_X12_countUnit = true := by decide +kernel
set_option maxRecDepth 100000 in
theorem zcd_X12_openUp : zcdB yX12_openUp.cls yX12_openUp.name none cX12_openUp zC_X12_openUp = true := by decide +kernel
set_option maxRecDepth 100000 in
theorem zcd_X12_worked : zcdB yX12_worked.cls yX12_worked.name (some .int) cX12_worked zC_X12_worked = true := by decide +kernel
set_option maxRecDepth 100000 in
theorem zcd_X12_readThing : zcdB yX12_readThing.cls yX12_readThing.name none cX12_readThing zC_X12_readThing = true := by decide +kernel
set_option maxRecDepth 100000 in
theorem zcd_X12_readSets : zcdB yX12_readSets.cls yX12_readSets.name none cX12_readSets zC_X12_readSets = true := by decide +kernel
set_option maxRecDepth 100000 in
theorem zcd_X12_isLaw : zcdB yX12_isLaw.cls yX12_isLaw.name (some .boolean) cX12_isLaw zC_X12_isLaw = true := by decide +kernel
set_option maxRecDepth 100000 in
theorem zcd_X12_load : zcdB yX12_load.cls yX12_load.name none cX12_load zC_X12_load = true := by decide +kernel
set_option maxRecDepth 100000 in
theorem zcd_X12_doSets : zcdB yX12_doSets.cls yX12_doSets.name none cX12_doSets zC_X12_doSets = true := by decide +kernel
set_option maxRecDepth 100000 in
theorem zcd_X12_note : zcdB yX12_note.cls yX12_note.name none cX12_note zC_X12_note = true := by decide +kernel
set_option maxRecDepth 100000 in
theorem zcd_X12_chainOf : zcdB yX12_chainOf.cls yX12_chainOf.name (some .int) cX12_chainOf zC_X12_chainOf = true := by decide +kernel
set_option maxRecDepth 100000 in
theorem zcd_X12_layMost : zcdB yX12_layMost.cls yX12_layMost.name (some .boolean) cX12_layMost zC_X12_layMost = true := by decide +kernel
set_option maxRecDepth 100000 in
theorem zcd_X12_most : zcdB yX12_most.cls yX12_most.name (some .int) cX12_most zC_X12_most = true := by decide +kernel
set_option maxRecDepth 100000 in
theorem zcd_X12_layRested : zcdB yX12_layRested.cls yX12_layRested.name (some .boolean) cX12_layRested zC_X12_layRested = true := by decide +kernel
set_option maxRecDepth 100000 in
theorem zcd_X12_loophole : zcdB yX12_loophole.cls yX12_loophole.name (some .int) cX12_loophole zC_X12_loophole = true := by decide +kernel
set_option maxRecDepth 100000 in
theorem zcd_X12_comesTrue : zcdB yX12_comesTrue.cls yX12_comesTrue.name (some .boolean) cX12_comesTrue zC_X12_comesTrue = true := by decide +kernel
set_option maxRecDepth 100000 in
theorem zcd_X12_fit : zcdB yX12_fit.cls yX12_fit.name (some .int) cX12_fit zC_X12_fit = true := by decide +kernel

/-! The law's own instructions. -/
set_option maxRecDepth 100000 in
theorem zcdL_0 : zcdR "RestDaysLaw" "" (some .boolean) code zC_L_law 0 64 = true := by decide +kernel
set_option maxRecDepth 100000 in
theorem zcdL_1 : zcdR "RestDaysLaw" "" (some .boolean) code zC_L_law 64 64 = true := by decide +kernel
set_option maxRecDepth 100000 in
theorem zcdL_2 : zcdR "RestDaysLaw" "" (some .boolean) code zC_L_law 128 64 = true := by decide +kernel
set_option maxRecDepth 100000 in
theorem zcdL_3 : zcdR "RestDaysLaw" "" (some .boolean) code zC_L_law 192 64 = true := by decide +kernel
set_option maxRecDepth 100000 in
theorem zcdL_4 : zcdR "RestDaysLaw" "" (some .boolean) code zC_L_law 256 64 = true := by decide +kernel
set_option maxRecDepth 100000 in
theorem zcdL_5 : zcdR "RestDaysLaw" "" (some .boolean) code zC_L_law 320 64 = true := by decide +kernel
set_option maxRecDepth 100000 in
theorem zcdL_6 : zcdR "RestDaysLaw" "" (some .boolean) code zC_L_law 384 64 = true := by decide +kernel
set_option maxRecDepth 100000 in
theorem zcdL_7 : zcdR "RestDaysLaw" "" (some .boolean) code zC_L_law 448 64 = true := by decide +kernel
set_option maxRecDepth 100000 in
theorem zcdL_8 : zcdR "RestDaysLaw" "" (some .boolean) code zC_L_law 512 64 = true := by decide +kernel
set_option maxRecDepth 100000 in
theorem zcdL_9 : zcdR "RestDaysLaw" "" (some .boolean) code zC_L_law 576 64 = true := by decide +kernel

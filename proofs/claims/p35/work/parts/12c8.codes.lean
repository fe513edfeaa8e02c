/-! The law's own instructions. -/
set_option maxRecDepth 100000 in
theorem zcdL_10 : zcdR "RestDaysLaw" "" (some .boolean) code zC_L_law 640 64 = true := by decide +kernel
set_option maxRecDepth 100000 in
theorem zcdL_11 : zcdR "RestDaysLaw" "" (some .boolean) code zC_L_law 704 64 = true := by decide +kernel
set_option maxRecDepth 100000 in
theorem zcdL_12 : zcdR "RestDaysLaw" "" (some .boolean) code zC_L_law 768 64 = true := by decide +kernel
set_option maxRecDepth 100000 in
theorem zcdL_13 : zcdR "RestDaysLaw" "" (some .boolean) code zC_L_law 832 64 = true := by decide +kernel
set_option maxRecDepth 100000 in
theorem zcdL_14 : zcdR "RestDaysLaw" "" (some .boolean) code zC_L_law 896 64 = true := by decide +kernel
set_option maxRecDepth 100000 in
theorem zcdL_15 : zcdR "RestDaysLaw" "" (some .boolean) code zC_L_law 960 64 = true := by decide +kernel
set_option maxRecDepth 100000 in
theorem zcdL_16 : zcdR "RestDaysLaw" "" (some .boolean) code zC_L_law 1024 64 = true := by decide +kernel
set_option maxRecDepth 100000 in
theorem zcdL_17 : zcdR "RestDaysLaw" "" (some .boolean) code zC_L_law 1088 64 = true := by decide +kernel
set_option maxRecDepth 100000 in
theorem zcdL_18 : zcdR "RestDaysLaw" "" (some .boolean) code zC_L_law 1152 64 = true := by decide +kernel
set_option maxRecDepth 100000 in
theorem zcdL_19 : zcdR "RestDaysLaw" "" (some .boolean) code zC_L_law 1216 64 = true := by decide +kernel

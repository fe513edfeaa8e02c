/-! Of hours. -/
set_option maxRecDepth 100000 in
theorem zhq_0 : zrunAll 10 zh_0 [zfull] [zfull] [zfull] [zfull] = true := by decide +kernel
set_option maxRecDepth 100000 in
theorem zhq_1 : zrunAll 10 zh_1 [zfull] [zfull] [zfull] [zfull] = true := by decide +kernel
set_option maxRecDepth 100000 in
theorem zhq_2 : zrunAll 10 zh_2 [zfull] [zfull] [zfull] [zfull] = true := by decide +kernel
set_option maxRecDepth 100000 in
theorem zhq_3 : zrunAll 10 zh_3 [zfull] [zfull] [zfull] [zfull] = true := by decide +kernel

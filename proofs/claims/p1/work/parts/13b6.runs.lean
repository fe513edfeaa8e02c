/-! Of hours, on. -/
set_option maxRecDepth 100000 in
theorem zhq_4 : zrunAll 10 zh_4 [zfull] [zfull] [zfull] [zfull] = true := by decide +kernel
set_option maxRecDepth 100000 in
theorem zhq_5 : zrunAll 10 zh_5 [zfull] [zfull] [zfull] [zfull] = true := by decide +kernel
set_option maxRecDepth 100000 in
theorem zhq_6 : zrunAll 10 zh_6 [zfull] [zfull] [zfull] [zfull] = true := by decide +kernel
set_option maxRecDepth 100000 in
theorem zhq_7 : zrunAll 10 zh_7 [zfull] [zfull] [zfull] [zfull] = true := by decide +kernel

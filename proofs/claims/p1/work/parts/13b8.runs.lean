/-! Of round. -/
set_option maxRecDepth 100000 in
theorem zrq_1 : zrunAll 18 [(0, 0)] [zfull] [zfull] [zfull] [zfull] = true := by decide +kernel

/-! Of round. -/
set_option maxRecDepth 100000 in
theorem zrq_2 : zrunAll 18 [(1, 1)] [zfull] [zfull] [zfull] [zfull] = true := by decide +kernel

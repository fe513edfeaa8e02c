/-! Of round. -/
set_option maxRecDepth 100000 in
theorem zrq_0 : zrunAll 18 [(-2147483648, -1), (2, 2147483647)] [zfull] [zfull] [zfull] [zfull] = true := by decide +kernel

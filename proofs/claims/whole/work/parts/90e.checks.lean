set_option maxRecDepth 100000 in
theorem xokL7 : xokB 304 1400 200 = true := by decide +kernel
set_option maxRecDepth 100000 in
theorem xokL8 : xokB 304 1600 200 = true := by decide +kernel

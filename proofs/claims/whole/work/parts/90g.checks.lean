set_option maxRecDepth 100000 in
theorem xokL11 : xokB 304 2200 200 = true := by decide +kernel
set_option maxRecDepth 100000 in
theorem xokL12 : xokB 304 2400 200 = true := by decide +kernel

set_option maxRecDepth 100000 in
theorem xokL9 : xokB 304 1800 200 = true := by decide +kernel
set_option maxRecDepth 100000 in
theorem xokL10 : xokB 304 2000 200 = true := by decide +kernel

set_option maxRecDepth 100000 in
theorem xokL22 : xokB 304 2150 50 = true := by decide +kernel
set_option maxRecDepth 100000 in
theorem xokL23 : xokB 304 2200 50 = true := by decide +kernel
set_option maxRecDepth 100000 in
theorem xokL24 : xokB 304 2250 50 = true := by decide +kernel
set_option maxRecDepth 100000 in
theorem xokL25 : xokB 304 2300 50 = true := by decide +kernel
set_option maxRecDepth 100000 in
theorem xokL26 : xokB 304 2350 50 = true := by decide +kernel
set_option maxRecDepth 100000 in
theorem xokL27 : xokB 304 2400 50 = true := by decide +kernel
set_option maxRecDepth 100000 in
theorem xokL28 : xokB 304 2450 50 = true := by decide +kernel

theorem xok304 : xokM 304 = true := by decide +kernel
set_option maxRecDepth 100000 in
theorem xokL0 : xokB 304 0 200 = true := by decide +kernel
set_option maxRecDepth 100000 in
theorem xokL1 : xokB 304 200 200 = true := by decide +kernel
set_option maxRecDepth 100000 in
theorem xokL2 : xokB 304 400 200 = true := by decide +kernel
set_option maxRecDepth 100000 in
theorem xokL3 : xokB 304 600 200 = true := by decide +kernel
set_option maxRecDepth 100000 in
theorem xokL4 : xokB 304 800 200 = true := by decide +kernel
set_option maxRecDepth 100000 in
theorem xokL5 : xokB 304 1000 200 = true := by decide +kernel
set_option maxRecDepth 100000 in
theorem xokL6 : xokB 304 1200 200 = true := by decide +kernel

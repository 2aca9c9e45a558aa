set_option maxRecDepth 100000 in
theorem xokL15 : xokB 304 1800 50 = true := by decide +kernel
set_option maxRecDepth 100000 in
theorem xokL16 : xokB 304 1850 50 = true := by decide +kernel
set_option maxRecDepth 100000 in
theorem xokL17 : xokB 304 1900 50 = true := by decide +kernel
set_option maxRecDepth 100000 in
theorem xokL18 : xokB 304 1950 50 = true := by decide +kernel
set_option maxRecDepth 100000 in
theorem xokL19 : xokB 304 2000 50 = true := by decide +kernel
set_option maxRecDepth 100000 in
theorem xokL20 : xokB 304 2050 50 = true := by decide +kernel
set_option maxRecDepth 100000 in
theorem xokL21 : xokB 304 2100 50 = true := by decide +kernel

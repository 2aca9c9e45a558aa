set_option maxRecDepth 100000 in
theorem xokL7 : xokB 304 1400 50 = true := by decide +kernel
set_option maxRecDepth 100000 in
theorem xokL8 : xokB 304 1450 50 = true := by decide +kernel
set_option maxRecDepth 100000 in
theorem xokL9 : xokB 304 1500 50 = true := by decide +kernel
set_option maxRecDepth 100000 in
theorem xokL10 : xokB 304 1550 50 = true := by decide +kernel
set_option maxRecDepth 100000 in
theorem xokL11 : xokB 304 1600 50 = true := by decide +kernel
set_option maxRecDepth 100000 in
theorem xokL12 : xokB 304 1650 50 = true := by decide +kernel
set_option maxRecDepth 100000 in
theorem xokL13 : xokB 304 1700 50 = true := by decide +kernel
set_option maxRecDepth 100000 in
theorem xokL14 : xokB 304 1750 50 = true := by decide +kernel

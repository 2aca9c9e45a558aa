set_option maxRecDepth 100000 in
theorem xok0 : xokA 0 = true := by decide +kernel
set_option maxRecDepth 100000 in
theorem xok1 : xokA 1 = true := by decide +kernel
set_option maxRecDepth 100000 in
theorem xok2 : xokA 2 = true := by decide +kernel
set_option maxRecDepth 100000 in
theorem xok3 : xokA 3 = true := by decide +kernel
set_option maxRecDepth 100000 in
theorem xok4 : xokA 4 = true := by decide +kernel
set_option maxRecDepth 100000 in
theorem xok5 : xokA 5 = true := by decide +kernel
set_option maxRecDepth 100000 in
theorem xok6 : xokA 6 = true := by decide +kernel
set_option maxRecDepth 100000 in
theorem xok7 : xokA 7 = true := by decide +kernel
set_option maxRecDepth 100000 in
theorem xok8 : xokA 8 = true := by decide +kernel
set_option maxRecDepth 100000 in
theorem xok9 : xokA 9 = true := by decide +kernel
set_option maxRecDepth 100000 in
theorem xok10 : xokA 10 = true := by decide +kernel
set_option maxRecDepth 100000 in
theorem xok11 : xokA 11 = true := by decide +kernel
set_option maxRecDepth 100000 in
theorem xok12 : xokA 12 = true := by decide +kernel
set_option maxRecDepth 100000 in
theorem xok13 : xokA 13 = true := by decide +kernel
set_option maxRecDepth 100000 in
theorem xok14 : xokA 14 = true := by decide +kernel
set_option maxRecDepth 100000 in
theorem xok15 : xokA 15 = true := by decide +kernel
set_option maxRecDepth 100000 in
theorem xok16 : xokA 16 = true := by decide +kernel
set_option maxRecDepth 100000 in
theorem xok17 : xokA 17 = true := by decide +kernel
set_option maxRecDepth 100000 in
theorem xok18 : xokA 18 = true := by decide +kernel
set_option maxRecDepth 100000 in
theorem xok19 : xokA 19 = true := by decide +kernel
set_option maxRecDepth 100000 in
theorem xok20 : xokA 20 = true := by decide +kernel
set_option maxRecDepth 100000 in
theorem xok21 : xokA 21 = true := by decide +kernel
set_option maxRecDepth 100000 in
theorem xok22 : xokA 22 = true := by decide +kernel
set_option maxRecDepth 100000 in
theorem xok23 : xokA 23 = true := by decide +kernel
set_option maxRecDepth 100000 in
theorem xok24 : xokA 24 = true := by decide +kernel
set_option maxRecDepth 100000 in
theorem xok25 : xokA 25 = true := by decide +kernel
set_option maxRecDepth 100000 in
theorem xok26 : xokA 26 = true := by decide +kernel
set_option maxRecDepth 100000 in
theorem xok27 : xokA 27 = true := by decide +kernel
set_option maxRecDepth 100000 in
theorem xok28 : xokA 28 = true := by decide +kernel
set_option maxRecDepth 100000 in
theorem xok29 : xokA 29 = true := by decide +kernel
set_option maxRecDepth 100000 in
theorem xok30 : xokA 30 = true := by decide +kernel
set_option maxRecDepth 100000 in
theorem xok31 : xokA 31 = true := by decide +kernel
set_option maxRecDepth 100000 in
theorem xok32 : xokA 32 = true := by decide +kernel
set_option maxRecDepth 100000 in
theorem xok33 : xokA 33 = true := by decide +kernel
set_option maxRecDepth 100000 in
theorem xok34 : xokA 34 = true := by decide +kernel
set_option maxRecDepth 100000 in
theorem xok35 : xokA 35 = true := by decide +kernel
set_option maxRecDepth 100000 in
theorem xok36 : xokA 36 = true := by decide +kernel
set_option maxRecDepth 100000 in
theorem xok37 : xokA 37 = true := by decide +kernel
set_option maxRecDepth 100000 in
theorem xok38 : xokA 38 = true := by decide +kernel
set_option maxRecDepth 100000 in
theorem xok39 : xokA 39 = true := by decide +kernel
theorem xokU40 : ∀ a, a < 40 → xokA a = true := (lt_s (lt_s (lt_s (lt_s (lt_s (lt_s (lt_s (lt_s (lt_s (lt_s (lt_s (lt_s (lt_s (lt_s (lt_s (lt_s (lt_s (lt_s (lt_s (lt_s (lt_s (lt_s (lt_s (lt_s (lt_s (lt_s (lt_s (lt_s (lt_s (lt_s (lt_s (lt_s (lt_s (lt_s (lt_s (lt_s (lt_s (lt_s (lt_s (lt_s lt_0 xok0) xok1) xok2) xok3) xok4) xok5) xok6) xok7) xok8) xok9) xok10) xok11) xok12) xok13) xok14) xok15) xok16) xok17) xok18) xok19) xok20) xok21) xok22) xok23) xok24) xok25) xok26) xok27) xok28) xok29) xok30) xok31) xok32) xok33) xok34) xok35) xok36) xok37) xok38) xok39)

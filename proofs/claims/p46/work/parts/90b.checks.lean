set_option maxRecDepth 100000 in
theorem xok40 : xokA 40 = true := by decide +kernel
set_option maxRecDepth 100000 in
theorem xok41 : xokA 41 = true := by decide +kernel
set_option maxRecDepth 100000 in
theorem xok42 : xokA 42 = true := by decide +kernel
set_option maxRecDepth 100000 in
theorem xok43 : xokA 43 = true := by decide +kernel
set_option maxRecDepth 100000 in
theorem xok44 : xokA 44 = true := by decide +kernel
set_option maxRecDepth 100000 in
theorem xok45 : xokA 45 = true := by decide +kernel
set_option maxRecDepth 100000 in
theorem xok46 : xokA 46 = true := by decide +kernel
set_option maxRecDepth 100000 in
theorem xok47 : xokA 47 = true := by decide +kernel
set_option maxRecDepth 100000 in
theorem xok48 : xokA 48 = true := by decide +kernel
set_option maxRecDepth 100000 in
theorem xok49 : xokA 49 = true := by decide +kernel
set_option maxRecDepth 100000 in
theorem xok50 : xokA 50 = true := by decide +kernel
set_option maxRecDepth 100000 in
theorem xok51 : xokA 51 = true := by decide +kernel
set_option maxRecDepth 100000 in
theorem xok52 : xokA 52 = true := by decide +kernel
set_option maxRecDepth 100000 in
theorem xok53 : xokA 53 = true := by decide +kernel
set_option maxRecDepth 100000 in
theorem xok54 : xokA 54 = true := by decide +kernel
set_option maxRecDepth 100000 in
theorem xok55 : xokA 55 = true := by decide +kernel
set_option maxRecDepth 100000 in
theorem xok56 : xokA 56 = true := by decide +kernel
set_option maxRecDepth 100000 in
theorem xok57 : xokA 57 = true := by decide +kernel
set_option maxRecDepth 100000 in
theorem xok58 : xokA 58 = true := by decide +kernel
set_option maxRecDepth 100000 in
theorem xok59 : xokA 59 = true := by decide +kernel
set_option maxRecDepth 100000 in
theorem xok60 : xokA 60 = true := by decide +kernel
set_option maxRecDepth 100000 in
theorem xok61 : xokA 61 = true := by decide +kernel
set_option maxRecDepth 100000 in
theorem xok62 : xokA 62 = true := by decide +kernel
set_option maxRecDepth 100000 in
theorem xok63 : xokA 63 = true := by decide +kernel
set_option maxRecDepth 100000 in
theorem xok64 : xokA 64 = true := by decide +kernel
set_option maxRecDepth 100000 in
theorem xok65 : xokA 65 = true := by decide +kernel
set_option maxRecDepth 100000 in
theorem xok66 : xokA 66 = true := by decide +kernel
set_option maxRecDepth 100000 in
theorem xok67 : xokA 67 = true := by decide +kernel
set_option maxRecDepth 100000 in
theorem xok68 : xokA 68 = true := by decide +kernel
set_option maxRecDepth 100000 in
theorem xok69 : xokA 69 = true := by decide +kernel
set_option maxRecDepth 100000 in
theorem xok70 : xokA 70 = true := by decide +kernel
set_option maxRecDepth 100000 in
theorem xok71 : xokA 71 = true := by decide +kernel
set_option maxRecDepth 100000 in
theorem xok72 : xokA 72 = true := by decide +kernel
set_option maxRecDepth 100000 in
theorem xok73 : xokA 73 = true := by decide +kernel
set_option maxRecDepth 100000 in
theorem xok74 : xokA 74 = true := by decide +kernel
set_option maxRecDepth 100000 in
theorem xok75 : xokA 75 = true := by decide +kernel
set_option maxRecDepth 100000 in
theorem xok76 : xokA 76 = true := by decide +kernel
set_option maxRecDepth 100000 in
theorem xok77 : xokA 77 = true := by decide +kernel
set_option maxRecDepth 100000 in
theorem xok78 : xokA 78 = true := by decide +kernel
set_option maxRecDepth 100000 in
theorem xok79 : xokA 79 = true := by decide +kernel
theorem xokU80 : ∀ a, a < 80 → xokA a = true := (lt_s (lt_s (lt_s (lt_s (lt_s (lt_s (lt_s (lt_s (lt_s (lt_s (lt_s (lt_s (lt_s (lt_s (lt_s (lt_s (lt_s (lt_s (lt_s (lt_s (lt_s (lt_s (lt_s (lt_s (lt_s (lt_s (lt_s (lt_s (lt_s (lt_s (lt_s (lt_s (lt_s (lt_s (lt_s (lt_s (lt_s (lt_s (lt_s (lt_s xokU40 xok40) xok41) xok42) xok43) xok44) xok45) xok46) xok47) xok48) xok49) xok50) xok51) xok52) xok53) xok54) xok55) xok56) xok57) xok58) xok59) xok60) xok61) xok62) xok63) xok64) xok65) xok66) xok67) xok68) xok69) xok70) xok71) xok72) xok73) xok74) xok75) xok76) xok77) xok78) xok79)

set_option maxRecDepth 100000 in
theorem xok80 : xokA 80 = true := by decide +kernel
set_option maxRecDepth 100000 in
theorem xok81 : xokA 81 = true := by decide +kernel
set_option maxRecDepth 100000 in
theorem xok82 : xokA 82 = true := by decide +kernel
set_option maxRecDepth 100000 in
theorem xok83 : xokA 83 = true := by decide +kernel
set_option maxRecDepth 100000 in
theorem xok84 : xokA 84 = true := by decide +kernel
set_option maxRecDepth 100000 in
theorem xok85 : xokA 85 = true := by decide +kernel
set_option maxRecDepth 100000 in
theorem xok86 : xokA 86 = true := by decide +kernel
set_option maxRecDepth 100000 in
theorem xok87 : xokA 87 = true := by decide +kernel
set_option maxRecDepth 100000 in
theorem xok88 : xokA 88 = true := by decide +kernel
set_option maxRecDepth 100000 in
theorem xok89 : xokA 89 = true := by decide +kernel
set_option maxRecDepth 100000 in
theorem xok90 : xokA 90 = true := by decide +kernel
set_option maxRecDepth 100000 in
theorem xok91 : xokA 91 = true := by decide +kernel
set_option maxRecDepth 100000 in
theorem xok92 : xokA 92 = true := by decide +kernel
set_option maxRecDepth 100000 in
theorem xok93 : xokA 93 = true := by decide +kernel
set_option maxRecDepth 100000 in
theorem xok94 : xokA 94 = true := by decide +kernel
set_option maxRecDepth 100000 in
theorem xok95 : xokA 95 = true := by decide +kernel
set_option maxRecDepth 100000 in
theorem xok96 : xokA 96 = true := by decide +kernel
set_option maxRecDepth 100000 in
theorem xok97 : xokA 97 = true := by decide +kernel
set_option maxRecDepth 100000 in
theorem xok98 : xokA 98 = true := by decide +kernel
set_option maxRecDepth 100000 in
theorem xok99 : xokA 99 = true := by decide +kernel
set_option maxRecDepth 100000 in
theorem xok100 : xokA 100 = true := by decide +kernel
set_option maxRecDepth 100000 in
theorem xok101 : xokA 101 = true := by decide +kernel
set_option maxRecDepth 100000 in
theorem xok102 : xokA 102 = true := by decide +kernel
set_option maxRecDepth 100000 in
theorem xok103 : xokA 103 = true := by decide +kernel
set_option maxRecDepth 100000 in
theorem xok104 : xokA 104 = true := by decide +kernel
set_option maxRecDepth 100000 in
theorem xok105 : xokA 105 = true := by decide +kernel
set_option maxRecDepth 100000 in
theorem xok106 : xokA 106 = true := by decide +kernel
set_option maxRecDepth 100000 in
theorem xok107 : xokA 107 = true := by decide +kernel
set_option maxRecDepth 100000 in
theorem xok108 : xokA 108 = true := by decide +kernel
set_option maxRecDepth 100000 in
theorem xok109 : xokA 109 = true := by decide +kernel
set_option maxRecDepth 100000 in
theorem xok110 : xokA 110 = true := by decide +kernel
set_option maxRecDepth 100000 in
theorem xok111 : xokA 111 = true := by decide +kernel
set_option maxRecDepth 100000 in
theorem xok112 : xokA 112 = true := by decide +kernel
set_option maxRecDepth 100000 in
theorem xok113 : xokA 113 = true := by decide +kernel
set_option maxRecDepth 100000 in
theorem xok114 : xokA 114 = true := by decide +kernel
set_option maxRecDepth 100000 in
theorem xok115 : xokA 115 = true := by decide +kernel
set_option maxRecDepth 100000 in
theorem xok116 : xokA 116 = true := by decide +kernel
set_option maxRecDepth 100000 in
theorem xok117 : xokA 117 = true := by decide +kernel
set_option maxRecDepth 100000 in
theorem xok118 : xokA 118 = true := by decide +kernel
set_option maxRecDepth 100000 in
theorem xok119 : xokA 119 = true := by decide +kernel
theorem xokU120 : ∀ a, a < 120 → xokA a = true := (lt_s (lt_s (lt_s (lt_s (lt_s (lt_s (lt_s (lt_s (lt_s (lt_s (lt_s (lt_s (lt_s (lt_s (lt_s (lt_s (lt_s (lt_s (lt_s (lt_s (lt_s (lt_s (lt_s (lt_s (lt_s (lt_s (lt_s (lt_s (lt_s (lt_s (lt_s (lt_s (lt_s (lt_s (lt_s (lt_s (lt_s (lt_s (lt_s (lt_s xokU80 xok80) xok81) xok82) xok83) xok84) xok85) xok86) xok87) xok88) xok89) xok90) xok91) xok92) xok93) xok94) xok95) xok96) xok97) xok98) xok99) xok100) xok101) xok102) xok103) xok104) xok105) xok106) xok107) xok108) xok109) xok110) xok111) xok112) xok113) xok114) xok115) xok116) xok117) xok118) xok119)

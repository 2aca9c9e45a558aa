set_option maxRecDepth 100000 in
theorem xok0 : xokA 0 = true := by decide +kernel
set_option maxRecDepth 100000 in
theorem xok1 : xokA 1 = true := by decide +kernel
set_option maxRecDepth 100000 in
theorem xok2 : xokA 2 = true := by decide +kernel
set_option maxRecDepth 100000 in
theorem xok3 : xokA 3 = true := by decide +kernel
set_option maxRecDepth 100000 in
theorem xok4 : xokA 4 = true := by decide +kernel
set_option maxRecDepth 100000 in
theorem xok5 : xokA 5 = true := by decide +kernel
set_option maxRecDepth 100000 in
theorem xok6 : xokA 6 = true := by decide +kernel
set_option maxRecDepth 100000 in
theorem xok7 : xokA 7 = true := by decide +kernel
set_option maxRecDepth 100000 in
theorem xok8 : xokA 8 = true := by decide +kernel
set_option maxRecDepth 100000 in
theorem xok9 : xokA 9 = true := by decide +kernel
set_option maxRecDepth 100000 in
theorem xok10 : xokA 10 = true := by decide +kernel
set_option maxRecDepth 100000 in
theorem xok11 : xokA 11 = true := by decide +kernel
set_option maxRecDepth 100000 in
theorem xok12 : xokA 12 = true := by decide +kernel
set_option maxRecDepth 100000 in
theorem xok13 : xokA 13 = true := by decide +kernel
set_option maxRecDepth 100000 in
theorem xok14 : xokA 14 = true := by decide +kernel
set_option maxRecDepth 100000 in
theorem xok15 : xokA 15 = true := by decide +kernel
set_option maxRecDepth 100000 in
theorem xok16 : xokA 16 = true := by decide +kernel
set_option maxRecDepth 100000 in
theorem xok17 : xokA 17 = true := by decide +kernel
set_option maxRecDepth 100000 in
theorem xok18 : xokA 18 = true := by decide +kernel
set_option maxRecDepth 100000 in
theorem xok19 : xokA 19 = true := by decide +kernel
set_option maxRecDepth 100000 in
theorem xok20 : xokA 20 = true := by decide +kernel
set_option maxRecDepth 100000 in
theorem xok21 : xokA 21 = true := by decide +kernel
set_option maxRecDepth 100000 in
theorem xok22 : xokA 22 = true := by decide +kernel
set_option maxRecDepth 100000 in
theorem xok23 : xokA 23 = true := by decide +kernel
set_option maxRecDepth 100000 in
theorem xok24 : xokA 24 = true := by decide +kernel
set_option maxRecDepth 100000 in
theorem xok25 : xokA 25 = true := by decide +kernel
set_option maxRecDepth 100000 in
theorem xok26 : xokA 26 = true := by decide +kernel
set_option maxRecDepth 100000 in
theorem xok27 : xokA 27 = true := by decide +kernel
set_option maxRecDepth 100000 in
theorem xok28 : xokA 28 = true := by decide +kernel
set_option maxRecDepth 100000 in
theorem xok29 : xokA 29 = true := by decide +kernel
set_option maxRecDepth 100000 in
theorem xok30 : xokA 30 = true := by decide +kernel
set_option maxRecDepth 100000 in
theorem xok31 : xokA 31 = true := by decide +kernel
set_option maxRecDepth 100000 in
theorem xok32 : xokA 32 = true := by decide +kernel
set_option maxRecDepth 100000 in
theorem xok33 : xokA 33 = true := by decide +kernel
set_option maxRecDepth 100000 in
theorem xok34 : xokA 34 = true := by decide +kernel
set_option maxRecDepth 100000 in
theorem xok35 : xokA 35 = true := by decide +kernel
set_option maxRecDepth 100000 in
theorem xok36 : xokA 36 = true := by decide +kernel
set_option maxRecDepth 100000 in
theorem xok37 : xokA 37 = true := by decide +kernel
set_option maxRecDepth 100000 in
theorem xok38 : xokA 38 = true := by decide +kernel
set_option maxRecDepth 100000 in
theorem xok39 : xokA 39 = true := by decide +kernel
theorem xokU40 : ∀ a, a < 40 → xokA a = true := (lt_s (lt_s (lt_s (lt_s (lt_s (lt_s (lt_s (lt_s (lt_s (lt_s (lt_s (lt_s (lt_s (lt_s (lt_s (lt_s (lt_s (lt_s (lt_s (lt_s (lt_s (lt_s (lt_s (lt_s (lt_s (lt_s (lt_s (lt_s (lt_s (lt_s (lt_s (lt_s (lt_s (lt_s (lt_s (lt_s (lt_s (lt_s (lt_s (lt_s lt_0 xok0) xok1) xok2) xok3) xok4) xok5) xok6) xok7) xok8) xok9) xok10) xok11) xok12) xok13) xok14) xok15) xok16) xok17) xok18) xok19) xok20) xok21) xok22) xok23) xok24) xok25) xok26) xok27) xok28) xok29) xok30) xok31) xok32) xok33) xok34) xok35) xok36) xok37) xok38) xok39)
set_option maxRecDepth 100000 in
theorem xok40 : xokA 40 = true := by decide +kernel
set_option maxRecDepth 100000 in
theorem xok41 : xokA 41 = true := by decide +kernel
set_option maxRecDepth 100000 in
theorem xok42 : xokA 42 = true := by decide +kernel
set_option maxRecDepth 100000 in
theorem xok43 : xokA 43 = true := by decide +kernel
set_option maxRecDepth 100000 in
theorem xok44 : xokA 44 = true := by decide +kernel
set_option maxRecDepth 100000 in
theorem xok45 : xokA 45 = true := by decide +kernel
set_option maxRecDepth 100000 in
theorem xok46 : xokA 46 = true := by decide +kernel
set_option maxRecDepth 100000 in
theorem xok47 : xokA 47 = true := by decide +kernel
set_option maxRecDepth 100000 in
theorem xok48 : xokA 48 = true := by decide +kernel
set_option maxRecDepth 100000 in
theorem xok49 : xokA 49 = true := by decide +kernel
set_option maxRecDepth 100000 in
theorem xok50 : xokA 50 = true := by decide +kernel
set_option maxRecDepth 100000 in
theorem xok51 : xokA 51 = true := by decide +kernel
set_option maxRecDepth 100000 in
theorem xok52 : xokA 52 = true := by decide +kernel
set_option maxRecDepth 100000 in
theorem xok53 : xokA 53 = true := by decide +kernel
set_option maxRecDepth 100000 in
theorem xok54 : xokA 54 = true := by decide +kernel
set_option maxRecDepth 100000 in
theorem xok55 : xokA 55 = true := by decide +kernel
set_option maxRecDepth 100000 in
theorem xok56 : xokA 56 = true := by decide +kernel
set_option maxRecDepth 100000 in
theorem xok57 : xokA 57 = true := by decide +kernel
set_option maxRecDepth 100000 in
theorem xok58 : xokA 58 = true := by decide +kernel
set_option maxRecDepth 100000 in
theorem xok59 : xokA 59 = true := by decide +kernel
set_option maxRecDepth 100000 in
theorem xok60 : xokA 60 = true := by decide +kernel
set_option maxRecDepth 100000 in
theorem xok61 : xokA 61 = true := by decide +kernel
set_option maxRecDepth 100000 in
theorem xok62 : xokA 62 = true := by decide +kernel
set_option maxRecDepth 100000 in
theorem xok63 : xokA 63 = true := by decide +kernel
set_option maxRecDepth 100000 in
theorem xok64 : xokA 64 = true := by decide +kernel
set_option maxRecDepth 100000 in
theorem xok65 : xokA 65 = true := by decide +kernel
set_option maxRecDepth 100000 in
theorem xok66 : xokA 66 = true := by decide +kernel
set_option maxRecDepth 100000 in
theorem xok67 : xokA 67 = true := by decide +kernel
set_option maxRecDepth 100000 in
theorem xok68 : xokA 68 = true := by decide +kernel
set_option maxRecDepth 100000 in
theorem xok69 : xokA 69 = true := by decide +kernel
set_option maxRecDepth 100000 in
theorem xok70 : xokA 70 = true := by decide +kernel
set_option maxRecDepth 100000 in
theorem xok71 : xokA 71 = true := by decide +kernel
set_option maxRecDepth 100000 in
theorem xok72 : xokA 72 = true := by decide +kernel
set_option maxRecDepth 100000 in
theorem xok73 : xokA 73 = true := by decide +kernel
set_option maxRecDepth 100000 in
theorem xok74 : xokA 74 = true := by decide +kernel
set_option maxRecDepth 100000 in
theorem xok75 : xokA 75 = true := by decide +kernel
set_option maxRecDepth 100000 in
theorem xok76 : xokA 76 = true := by decide +kernel
set_option maxRecDepth 100000 in
theorem xok77 : xokA 77 = true := by decide +kernel
set_option maxRecDepth 100000 in
theorem xok78 : xokA 78 = true := by decide +kernel
set_option maxRecDepth 100000 in
theorem xok79 : xokA 79 = true := by decide +kernel
theorem xokU80 : ∀ a, a < 80 → xokA a = true := (lt_s (lt_s (lt_s (lt_s (lt_s (lt_s (lt_s (lt_s (lt_s (lt_s (lt_s (lt_s (lt_s (lt_s (lt_s (lt_s (lt_s (lt_s (lt_s (lt_s (lt_s (lt_s (lt_s (lt_s (lt_s (lt_s (lt_s (lt_s (lt_s (lt_s (lt_s (lt_s (lt_s (lt_s (lt_s (lt_s (lt_s (lt_s (lt_s (lt_s xokU40 xok40) xok41) xok42) xok43) xok44) xok45) xok46) xok47) xok48) xok49) xok50) xok51) xok52) xok53) xok54) xok55) xok56) xok57) xok58) xok59) xok60) xok61) xok62) xok63) xok64) xok65) xok66) xok67) xok68) xok69) xok70) xok71) xok72) xok73) xok74) xok75) xok76) xok77) xok78) xok79)
set_option maxRecDepth 100000 in
theorem xok80 : xokA 80 = true := by decide +kernel
set_option maxRecDepth 100000 in
theorem xok81 : xokA 81 = true := by decide +kernel
set_option maxRecDepth 100000 in
theorem xok82 : xokA 82 = true := by decide +kernel
set_option maxRecDepth 100000 in
theorem xok83 : xokA 83 = true := by decide +kernel
set_option maxRecDepth 100000 in
theorem xok84 : xokA 84 = true := by decide +kernel
set_option maxRecDepth 100000 in
theorem xok85 : xokA 85 = true := by decide +kernel
set_option maxRecDepth 100000 in
theorem xok86 : xokA 86 = true := by decide +kernel
set_option maxRecDepth 100000 in
theorem xok87 : xokA 87 = true := by decide +kernel
set_option maxRecDepth 100000 in
theorem xok88 : xokA 88 = true := by decide +kernel
set_option maxRecDepth 100000 in
theorem xok89 : xokA 89 = true := by decide +kernel
set_option maxRecDepth 100000 in
theorem xok90 : xokA 90 = true := by decide +kernel
set_option maxRecDepth 100000 in
theorem xok91 : xokA 91 = true := by decide +kernel
set_option maxRecDepth 100000 in
theorem xok92 : xokA 92 = true := by decide +kernel
set_option maxRecDepth 100000 in
theorem xok93 : xokA 93 = true := by decide +kernel
set_option maxRecDepth 100000 in
theorem xok94 : xokA 94 = true := by decide +kernel
set_option maxRecDepth 100000 in
theorem xok95 : xokA 95 = true := by decide +kernel
set_option maxRecDepth 100000 in
theorem xok96 : xokA 96 = true := by decide +kernel
set_option maxRecDepth 100000 in
theorem xok97 : xokA 97 = true := by decide +kernel
set_option maxRecDepth 100000 in
theorem xok98 : xokA 98 = true := by decide +kernel
set_option maxRecDepth 100000 in
theorem xok99 : xokA 99 = true := by decide +kernel
set_option maxRecDepth 100000 in
theorem xok100 : xokA 100 = true := by decide +kernel
set_option maxRecDepth 100000 in
theorem xok101 : xokA 101 = true := by decide +kernel
set_option maxRecDepth 100000 in
theorem xok102 : xokA 102 = true := by decide +kernel
set_option maxRecDepth 100000 in
theorem xok103 : xokA 103 = true := by decide +kernel
set_option maxRecDepth 100000 in
theorem xok104 : xokA 104 = true := by decide +kernel
set_option maxRecDepth 100000 in
theorem xok105 : xokA 105 = true := by decide +kernel
set_option maxRecDepth 100000 in
theorem xok106 : xokA 106 = true := by decide +kernel
set_option maxRecDepth 100000 in
theorem xok107 : xokA 107 = true := by decide +kernel
set_option maxRecDepth 100000 in
theorem xok108 : xokA 108 = true := by decide +kernel
set_option maxRecDepth 100000 in
theorem xok109 : xokA 109 = true := by decide +kernel
set_option maxRecDepth 100000 in
theorem xok110 : xokA 110 = true := by decide +kernel
set_option maxRecDepth 100000 in
theorem xok111 : xokA 111 = true := by decide +kernel
set_option maxRecDepth 100000 in
theorem xok112 : xokA 112 = true := by decide +kernel
set_option maxRecDepth 100000 in
theorem xok113 : xokA 113 = true := by decide +kernel
set_option maxRecDepth 100000 in
theorem xok114 : xokA 114 = true := by decide +kernel
set_option maxRecDepth 100000 in
theorem xok115 : xokA 115 = true := by decide +kernel
set_option maxRecDepth 100000 in
theorem xok116 : xokA 116 = true := by decide +kernel
set_option maxRecDepth 100000 in
theorem xok117 : xokA 117 = true := by decide +kernel
set_option maxRecDepth 100000 in
theorem xok118 : xokA 118 = true := by decide +kernel
set_option maxRecDepth 100000 in
theorem xok119 : xokA 119 = true := by decide +kernel
theorem xokU120 : ∀ a, a < 120 → xokA a = true := (lt_s (lt_s (lt_s (lt_s (lt_s (lt_s (lt_s (lt_s (lt_s (lt_s (lt_s (lt_s (lt_s (lt_s (lt_s (lt_s (lt_s (lt_s (lt_s (lt_s (lt_s (lt_s (lt_s (lt_s (lt_s (lt_s (lt_s (lt_s (lt_s (lt_s (lt_s (lt_s (lt_s (lt_s (lt_s (lt_s (lt_s (lt_s (lt_s (lt_s xokU80 xok80) xok81) xok82) xok83) xok84) xok85) xok86) xok87) xok88) xok89) xok90) xok91) xok92) xok93) xok94) xok95) xok96) xok97) xok98) xok99) xok100) xok101) xok102) xok103) xok104) xok105) xok106) xok107) xok108) xok109) xok110) xok111) xok112) xok113) xok114) xok115) xok116) xok117) xok118) xok119)

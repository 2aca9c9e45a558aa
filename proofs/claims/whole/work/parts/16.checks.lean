set_option maxRecDepth 100000 in
theorem xok0 : xokA 0 = true := by decide +kernel
set_option maxRecDepth 100000 in
theorem xok1 : xokA 1 = true := by decide +kernel
set_option maxRecDepth 100000 in
theorem xok2 : xokA 2 = true := by decide +kernel
set_option maxRecDepth 100000 in
theorem xok3 : xokA 3 = true := by decide +kernel
set_option maxRecDepth 100000 in
theorem xok4 : xokA 4 = true := by decide +kernel
set_option maxRecDepth 100000 in
theorem xok5 : xokA 5 = true := by decide +kernel
set_option maxRecDepth 100000 in
theorem xok6 : xokA 6 = true := by decide +kernel
set_option maxRecDepth 100000 in
theorem xok7 : xokA 7 = true := by decide +kernel
set_option maxRecDepth 100000 in
theorem xok8 : xokA 8 = true := by decide +kernel
set_option maxRecDepth 100000 in
theorem xok9 : xokA 9 = true := by decide +kernel
set_option maxRecDepth 100000 in
theorem xok10 : xokA 10 = true := by decide +kernel
set_option maxRecDepth 100000 in
theorem xok11 : xokA 11 = true := by decide +kernel
set_option maxRecDepth 100000 in
theorem xok12 : xokA 12 = true := by decide +kernel
set_option maxRecDepth 100000 in
theorem xok13 : xokA 13 = true := by decide +kernel
set_option maxRecDepth 100000 in
theorem xok14 : xokA 14 = true := by decide +kernel
set_option maxRecDepth 100000 in
theorem xok15 : xokA 15 = true := by decide +kernel
set_option maxRecDepth 100000 in
theorem xok16 : xokA 16 = true := by decide +kernel
set_option maxRecDepth 100000 in
theorem xok17 : xokA 17 = true := by decide +kernel
set_option maxRecDepth 100000 in
theorem xok18 : xokA 18 = true := by decide +kernel
set_option maxRecDepth 100000 in
theorem xok19 : xokA 19 = true := by decide +kernel
set_option maxRecDepth 100000 in
theorem xok20 : xokA 20 = true := by decide +kernel
set_option maxRecDepth 100000 in
theorem xok21 : xokA 21 = true := by decide +kernel
set_option maxRecDepth 100000 in
theorem xok22 : xokA 22 = true := by decide +kernel
set_option maxRecDepth 100000 in
theorem xok23 : xokA 23 = true := by decide +kernel
set_option maxRecDepth 100000 in
theorem xok24 : xokA 24 = true := by decide +kernel
set_option maxRecDepth 100000 in
theorem xok25 : xokA 25 = true := by decide +kernel
set_option maxRecDepth 100000 in
theorem xok26 : xokA 26 = true := by decide +kernel
set_option maxRecDepth 100000 in
theorem xok27 : xokA 27 = true := by decide +kernel
set_option maxRecDepth 100000 in
theorem xok28 : xokA 28 = true := by decide +kernel
set_option maxRecDepth 100000 in
theorem xok29 : xokA 29 = true := by decide +kernel
set_option maxRecDepth 100000 in
theorem xok30 : xokA 30 = true := by decide +kernel
set_option maxRecDepth 100000 in
theorem xok31 : xokA 31 = true := by decide +kernel
set_option maxRecDepth 100000 in
theorem xok32 : xokA 32 = true := by decide +kernel
set_option maxRecDepth 100000 in
theorem xok33 : xokA 33 = true := by decide +kernel
set_option maxRecDepth 100000 in
theorem xok34 : xokA 34 = true := by decide +kernel
set_option maxRecDepth 100000 in
theorem xok35 : xokA 35 = true := by decide +kernel
set_option maxRecDepth 100000 in
theorem xok36 : xokA 36 = true := by decide +kernel
set_option maxRecDepth 100000 in
theorem xok37 : xokA 37 = true := by decide +kernel
set_option maxRecDepth 100000 in
theorem xok38 : xokA 38 = true := by decide +kernel
set_option maxRecDepth 100000 in
theorem xok39 : xokA 39 = true := by decide +kernel
theorem xokU40 : ∀ a, a < 40 → xokA a = true := (lt_s (lt_s (lt_s (lt_s (lt_s (lt_s (lt_s (lt_s (lt_s (lt_s (lt_s (lt_s (lt_s (lt_s (lt_s (lt_s (lt_s (lt_s (lt_s (lt_s (lt_s (lt_s (lt_s (lt_s (lt_s (lt_s (lt_s (lt_s (lt_s (lt_s (lt_s (lt_s (lt_s (lt_s (lt_s (lt_s (lt_s (lt_s (lt_s (lt_s lt_0 xok0) xok1) xok2) xok3) xok4) xok5) xok6) xok7) xok8) xok9) xok10) xok11) xok12) xok13) xok14) xok15) xok16) xok17) xok18) xok19) xok20) xok21) xok22) xok23) xok24) xok25) xok26) xok27) xok28) xok29) xok30) xok31) xok32) xok33) xok34) xok35) xok36) xok37) xok38) xok39)
set_option maxRecDepth 100000 in
theorem xok40 : xokA 40 = true := by decide +kernel
set_option maxRecDepth 100000 in
theorem xok41 : xokA 41 = true := by decide +kernel
set_option maxRecDepth 100000 in
theorem xok42 : xokA 42 = true := by decide +kernel
set_option maxRecDepth 100000 in
theorem xok43 : xokA 43 = true := by decide +kernel
set_option maxRecDepth 100000 in
theorem xok44 : xokA 44 = true := by decide +kernel
set_option maxRecDepth 100000 in
theorem xok45 : xokA 45 = true := by decide +kernel
set_option maxRecDepth 100000 in
theorem xok46 : xokA 46 = true := by decide +kernel
set_option maxRecDepth 100000 in
theorem xok47 : xokA 47 = true := by decide +kernel
set_option maxRecDepth 100000 in
theorem xok48 : xokA 48 = true := by decide +kernel
set_option maxRecDepth 100000 in
theorem xok49 : xokA 49 = true := by decide +kernel
set_option maxRecDepth 100000 in
theorem xok50 : xokA 50 = true := by decide +kernel
set_option maxRecDepth 100000 in
theorem xok51 : xokA 51 = true := by decide +kernel
set_option maxRecDepth 100000 in
theorem xok52 : xokA 52 = true := by decide +kernel
set_option maxRecDepth 100000 in
theorem xok53 : xokA 53 = true := by decide +kernel
set_option maxRecDepth 100000 in
theorem xok54 : xokA 54 = true := by decide +kernel
set_option maxRecDepth 100000 in
theorem xok55 : xokA 55 = true := by decide +kernel
set_option maxRecDepth 100000 in
theorem xok56 : xokA 56 = true := by decide +kernel
set_option maxRecDepth 100000 in
theorem xok57 : xokA 57 = true := by decide +kernel
set_option maxRecDepth 100000 in
theorem xok58 : xokA 58 = true := by decide +kernel
set_option maxRecDepth 100000 in
theorem xok59 : xokA 59 = true := by decide +kernel
set_option maxRecDepth 100000 in
theorem xok60 : xokA 60 = true := by decide +kernel
set_option maxRecDepth 100000 in
theorem xok61 : xokA 61 = true := by decide +kernel
set_option maxRecDepth 100000 in
theorem xok62 : xokA 62 = true := by decide +kernel
set_option maxRecDepth 100000 in
theorem xok63 : xokA 63 = true := by decide +kernel
set_option maxRecDepth 100000 in
theorem xok64 : xokA 64 = true := by decide +kernel
set_option maxRecDepth 100000 in
theorem xok65 : xokA 65 = true := by decide +kernel
set_option maxRecDepth 100000 in
theorem xok66 : xokA 66 = true := by decide +kernel
set_option maxRecDepth 100000 in
theorem xok67 : xokA 67 = true := by decide +kernel
set_option maxRecDepth 100000 in
theorem xok68 : xokA 68 = true := by decide +kernel
set_option maxRecDepth 100000 in
theorem xok69 : xokA 69 = true := by decide +kernel
set_option maxRecDepth 100000 in
theorem xok70 : xokA 70 = true := by decide +kernel
set_option maxRecDepth 100000 in
theorem xok71 : xokA 71 = true := by decide +kernel
set_option maxRecDepth 100000 in
theorem xok72 : xokA 72 = true := by decide +kernel
set_option maxRecDepth 100000 in
theorem xok73 : xokA 73 = true := by decide +kernel
set_option maxRecDepth 100000 in
theorem xok74 : xokA 74 = true := by decide +kernel
set_option maxRecDepth 100000 in
theorem xok75 : xokA 75 = true := by decide +kernel
set_option maxRecDepth 100000 in
theorem xok76 : xokA 76 = true := by decide +kernel
set_option maxRecDepth 100000 in
theorem xok77 : xokA 77 = true := by decide +kernel
set_option maxRecDepth 100000 in
theorem xok78 : xokA 78 = true := by decide +kernel
set_option maxRecDepth 100000 in
theorem xok79 : xokA 79 = true := by decide +kernel
theorem xokU80 : ∀ a, a < 80 → xokA a = true := (lt_s (lt_s (lt_s (lt_s (lt_s (lt_s (lt_s (lt_s (lt_s (lt_s (lt_s (lt_s (lt_s (lt_s (lt_s (lt_s (lt_s (lt_s (lt_s (lt_s (lt_s (lt_s (lt_s (lt_s (lt_s (lt_s (lt_s (lt_s (lt_s (lt_s (lt_s (lt_s (lt_s (lt_s (lt_s (lt_s (lt_s (lt_s (lt_s (lt_s xokU40 xok40) xok41) xok42) xok43) xok44) xok45) xok46) xok47) xok48) xok49) xok50) xok51) xok52) xok53) xok54) xok55) xok56) xok57) xok58) xok59) xok60) xok61) xok62) xok63) xok64) xok65) xok66) xok67) xok68) xok69) xok70) xok71) xok72) xok73) xok74) xok75) xok76) xok77) xok78) xok79)
set_option maxRecDepth 100000 in
theorem xok80 : xokA 80 = true := by decide +kernel
set_option maxRecDepth 100000 in
theorem xok81 : xokA 81 = true := by decide +kernel
set_option maxRecDepth 100000 in
theorem xok82 : xokA 82 = true := by decide +kernel
set_option maxRecDepth 100000 in
theorem xok83 : xokA 83 = true := by decide +kernel
set_option maxRecDepth 100000 in
theorem xok84 : xokA 84 = true := by decide +kernel
set_option maxRecDepth 100000 in
theorem xok85 : xokA 85 = true := by decide +kernel
set_option maxRecDepth 100000 in
theorem xok86 : xokA 86 = true := by decide +kernel
set_option maxRecDepth 100000 in
theorem xok87 : xokA 87 = true := by decide +kernel
set_option maxRecDepth 100000 in
theorem xok88 : xokA 88 = true := by decide +kernel
set_option maxRecDepth 100000 in
theorem xok89 : xokA 89 = true := by decide +kernel
set_option maxRecDepth 100000 in
theorem xok90 : xokA 90 = true := by decide +kernel
set_option maxRecDepth 100000 in
theorem xok91 : xokA 91 = true := by decide +kernel
set_option maxRecDepth 100000 in
theorem xok92 : xokA 92 = true := by decide +kernel
set_option maxRecDepth 100000 in
theorem xok93 : xokA 93 = true := by decide +kernel
set_option maxRecDepth 100000 in
theorem xok94 : xokA 94 = true := by decide +kernel
set_option maxRecDepth 100000 in
theorem xok95 : xokA 95 = true := by decide +kernel
set_option maxRecDepth 100000 in
theorem xok96 : xokA 96 = true := by decide +kernel
set_option maxRecDepth 100000 in
theorem xok97 : xokA 97 = true := by decide +kernel
set_option maxRecDepth 100000 in
theorem xok98 : xokA 98 = true := by decide +kernel
set_option maxRecDepth 100000 in
theorem xok99 : xokA 99 = true := by decide +kernel
set_option maxRecDepth 100000 in
theorem xok100 : xokA 100 = true := by decide +kernel
set_option maxRecDepth 100000 in
theorem xok101 : xokA 101 = true := by decide +kernel
set_option maxRecDepth 100000 in
theorem xok102 : xokA 102 = true := by decide +kernel
set_option maxRecDepth 100000 in
theorem xok103 : xokA 103 = true := by decide +kernel
set_option maxRecDepth 100000 in
theorem xok104 : xokA 104 = true := by decide +kernel
set_option maxRecDepth 100000 in
theorem xok105 : xokA 105 = true := by decide +kernel
set_option maxRecDepth 100000 in
theorem xok106 : xokA 106 = true := by decide +kernel
set_option maxRecDepth 100000 in
theorem xok107 : xokA 107 = true := by decide +kernel
set_option maxRecDepth 100000 in
theorem xok108 : xokA 108 = true := by decide +kernel
set_option maxRecDepth 100000 in
theorem xok109 : xokA 109 = true := by decide +kernel
set_option maxRecDepth 100000 in
theorem xok110 : xokA 110 = true := by decide +kernel
set_option maxRecDepth 100000 in
theorem xok111 : xokA 111 = true := by decide +kernel
set_option maxRecDepth 100000 in
theorem xok112 : xokA 112 = true := by decide +kernel
set_option maxRecDepth 100000 in
theorem xok113 : xokA 113 = true := by decide +kernel
set_option maxRecDepth 100000 in
theorem xok114 : xokA 114 = true := by decide +kernel
set_option maxRecDepth 100000 in
theorem xok115 : xokA 115 = true := by decide +kernel
set_option maxRecDepth 100000 in
theorem xok116 : xokA 116 = true := by decide +kernel
set_option maxRecDepth 100000 in
theorem xok117 : xokA 117 = true := by decide +kernel
set_option maxRecDepth 100000 in
theorem xok118 : xokA 118 = true := by decide +kernel
set_option maxRecDepth 100000 in
theorem xok119 : xokA 119 = true := by decide +kernel
theorem xokU120 : ∀ a, a < 120 → xokA a = true := (lt_s (lt_s (lt_s (lt_s (lt_s (lt_s (lt_s (lt_s (lt_s (lt_s (lt_s (lt_s (lt_s (lt_s (lt_s (lt_s (lt_s (lt_s (lt_s (lt_s (lt_s (lt_s (lt_s (lt_s (lt_s (lt_s (lt_s (lt_s (lt_s (lt_s (lt_s (lt_s (lt_s (lt_s (lt_s (lt_s (lt_s (lt_s (lt_s (lt_s xokU80 xok80) xok81) xok82) xok83) xok84) xok85) xok86) xok87) xok88) xok89) xok90) xok91) xok92) xok93) xok94) xok95) xok96) xok97) xok98) xok99) xok100) xok101) xok102) xok103) xok104) xok105) xok106) xok107) xok108) xok109) xok110) xok111) xok112) xok113) xok114) xok115) xok116) xok117) xok118) xok119)
set_option maxRecDepth 100000 in
theorem xok120 : xokA 120 = true := by decide +kernel
set_option maxRecDepth 100000 in
theorem xok121 : xokA 121 = true := by decide +kernel
set_option maxRecDepth 100000 in
theorem xok122 : xokA 122 = true := by decide +kernel
set_option maxRecDepth 100000 in
theorem xok123 : xokA 123 = true := by decide +kernel
set_option maxRecDepth 100000 in
theorem xok124 : xokA 124 = true := by decide +kernel
set_option maxRecDepth 100000 in
theorem xok125 : xokA 125 = true := by decide +kernel
set_option maxRecDepth 100000 in
theorem xok126 : xokA 126 = true := by decide +kernel
set_option maxRecDepth 100000 in
theorem xok127 : xokA 127 = true := by decide +kernel
set_option maxRecDepth 100000 in
theorem xok128 : xokA 128 = true := by decide +kernel
set_option maxRecDepth 100000 in
theorem xok129 : xokA 129 = true := by decide +kernel
set_option maxRecDepth 100000 in
theorem xok130 : xokA 130 = true := by decide +kernel
set_option maxRecDepth 100000 in
theorem xok131 : xokA 131 = true := by decide +kernel
set_option maxRecDepth 100000 in
theorem xok132 : xokA 132 = true := by decide +kernel
set_option maxRecDepth 100000 in
theorem xok133 : xokA 133 = true := by decide +kernel
set_option maxRecDepth 100000 in
theorem xok134 : xokA 134 = true := by decide +kernel
set_option maxRecDepth 100000 in
theorem xok135 : xokA 135 = true := by decide +kernel
set_option maxRecDepth 100000 in
theorem xok136 : xokA 136 = true := by decide +kernel
set_option maxRecDepth 100000 in
theorem xok137 : xokA 137 = true := by decide +kernel
set_option maxRecDepth 100000 in
theorem xok138 : xokA 138 = true := by decide +kernel
set_option maxRecDepth 100000 in
theorem xok139 : xokA 139 = true := by decide +kernel
set_option maxRecDepth 100000 in
theorem xok140 : xokA 140 = true := by decide +kernel
set_option maxRecDepth 100000 in
theorem xok141 : xokA 141 = true := by decide +kernel
set_option maxRecDepth 100000 in
theorem xok142 : xokA 142 = true := by decide +kernel
set_option maxRecDepth 100000 in
theorem xok143 : xokA 143 = true := by decide +kernel
set_option maxRecDepth 100000 in
theorem xok144 : xokA 144 = true := by decide +kernel
set_option maxRecDepth 100000 in
theorem xok145 : xokA 145 = true := by decide +kernel
set_option maxRecDepth 100000 in
theorem xok146 : xokA 146 = true := by decide +kernel
set_option maxRecDepth 100000 in
theorem xok147 : xokA 147 = true := by decide +kernel
set_option maxRecDepth 100000 in
theorem xok148 : xokA 148 = true := by decide +kernel
set_option maxRecDepth 100000 in
theorem xok149 : xokA 149 = true := by decide +kernel
set_option maxRecDepth 100000 in
theorem xok150 : xokA 150 = true := by decide +kernel
set_option maxRecDepth 100000 in
theorem xok151 : xokA 151 = true := by decide +kernel
set_option maxRecDepth 100000 in
theorem xok152 : xokA 152 = true := by decide +kernel
set_option maxRecDepth 100000 in
theorem xok153 : xokA 153 = true := by decide +kernel
set_option maxRecDepth 100000 in
theorem xok154 : xokA 154 = true := by decide +kernel
set_option maxRecDepth 100000 in
theorem xok155 : xokA 155 = true := by decide +kernel
set_option maxRecDepth 100000 in
theorem xok156 : xokA 156 = true := by decide +kernel
set_option maxRecDepth 100000 in
theorem xok157 : xokA 157 = true := by decide +kernel
set_option maxRecDepth 100000 in
theorem xok158 : xokA 158 = true := by decide +kernel
set_option maxRecDepth 100000 in
theorem xok159 : xokA 159 = true := by decide +kernel
theorem xokU160 : ∀ a, a < 160 → xokA a = true := (lt_s (lt_s (lt_s (lt_s (lt_s (lt_s (lt_s (lt_s (lt_s (lt_s (lt_s (lt_s (lt_s (lt_s (lt_s (lt_s (lt_s (lt_s (lt_s (lt_s (lt_s (lt_s (lt_s (lt_s (lt_s (lt_s (lt_s (lt_s (lt_s (lt_s (lt_s (lt_s (lt_s (lt_s (lt_s (lt_s (lt_s (lt_s (lt_s (lt_s xokU120 xok120) xok121) xok122) xok123) xok124) xok125) xok126) xok127) xok128) xok129) xok130) xok131) xok132) xok133) xok134) xok135) xok136) xok137) xok138) xok139) xok140) xok141) xok142) xok143) xok144) xok145) xok146) xok147) xok148) xok149) xok150) xok151) xok152) xok153) xok154) xok155) xok156) xok157) xok158) xok159)
set_option maxRecDepth 100000 in
theorem xok160 : xokA 160 = true := by decide +kernel
set_option maxRecDepth 100000 in
theorem xok161 : xokA 161 = true := by decide +kernel
set_option maxRecDepth 100000 in
theorem xok162 : xokA 162 = true := by decide +kernel
set_option maxRecDepth 100000 in
theorem xok163 : xokA 163 = true := by decide +kernel
set_option maxRecDepth 100000 in
theorem xok164 : xokA 164 = true := by decide +kernel
set_option maxRecDepth 100000 in
theorem xok165 : xokA 165 = true := by decide +kernel
set_option maxRecDepth 100000 in
theorem xok166 : xokA 166 = true := by decide +kernel
set_option maxRecDepth 100000 in
theorem xok167 : xokA 167 = true := by decide +kernel
set_option maxRecDepth 100000 in
theorem xok168 : xokA 168 = true := by decide +kernel
set_option maxRecDepth 100000 in
theorem xok169 : xokA 169 = true := by decide +kernel
set_option maxRecDepth 100000 in
theorem xok170 : xokA 170 = true := by decide +kernel
set_option maxRecDepth 100000 in
theorem xok171 : xokA 171 = true := by decide +kernel
set_option maxRecDepth 100000 in
theorem xok172 : xokA 172 = true := by decide +kernel
set_option maxRecDepth 100000 in
theorem xok173 : xokA 173 = true := by decide +kernel
set_option maxRecDepth 100000 in
theorem xok174 : xokA 174 = true := by decide +kernel
set_option maxRecDepth 100000 in
theorem xok175 : xokA 175 = true := by decide +kernel
set_option maxRecDepth 100000 in
theorem xok176 : xokA 176 = true := by decide +kernel
set_option maxRecDepth 100000 in
theorem xok177 : xokA 177 = true := by decide +kernel
set_option maxRecDepth 100000 in
theorem xok178 : xokA 178 = true := by decide +kernel
set_option maxRecDepth 100000 in
theorem xok179 : xokA 179 = true := by decide +kernel
set_option maxRecDepth 100000 in
theorem xok180 : xokA 180 = true := by decide +kernel
set_option maxRecDepth 100000 in
theorem xok181 : xokA 181 = true := by decide +kernel
set_option maxRecDepth 100000 in
theorem xok182 : xokA 182 = true := by decide +kernel
set_option maxRecDepth 100000 in
theorem xok183 : xokA 183 = true := by decide +kernel
set_option maxRecDepth 100000 in
theorem xok184 : xokA 184 = true := by decide +kernel
set_option maxRecDepth 100000 in
theorem xok185 : xokA 185 = true := by decide +kernel
set_option maxRecDepth 100000 in
theorem xok186 : xokA 186 = true := by decide +kernel
set_option maxRecDepth 100000 in
theorem xok187 : xokA 187 = true := by decide +kernel
set_option maxRecDepth 100000 in
theorem xok188 : xokA 188 = true := by decide +kernel
set_option maxRecDepth 100000 in
theorem xok189 : xokA 189 = true := by decide +kernel
set_option maxRecDepth 100000 in
theorem xok190 : xokA 190 = true := by decide +kernel
set_option maxRecDepth 100000 in
theorem xok191 : xokA 191 = true := by decide +kernel
set_option maxRecDepth 100000 in
theorem xok192 : xokA 192 = true := by decide +kernel
set_option maxRecDepth 100000 in
theorem xok193 : xokA 193 = true := by decide +kernel
set_option maxRecDepth 100000 in
theorem xok194 : xokA 194 = true := by decide +kernel
set_option maxRecDepth 100000 in
theorem xok195 : xokA 195 = true := by decide +kernel
set_option maxRecDepth 100000 in
theorem xok196 : xokA 196 = true := by decide +kernel
set_option maxRecDepth 100000 in
theorem xok197 : xokA 197 = true := by decide +kernel
set_option maxRecDepth 100000 in
theorem xok198 : xokA 198 = true := by decide +kernel
set_option maxRecDepth 100000 in
theorem xok199 : xokA 199 = true := by decide +kernel
theorem xokU200 : ∀ a, a < 200 → xokA a = true := (lt_s (lt_s (lt_s (lt_s (lt_s (lt_s (lt_s (lt_s (lt_s (lt_s (lt_s (lt_s (lt_s (lt_s (lt_s (lt_s (lt_s (lt_s (lt_s (lt_s (lt_s (lt_s (lt_s (lt_s (lt_s (lt_s (lt_s (lt_s (lt_s (lt_s (lt_s (lt_s (lt_s (lt_s (lt_s (lt_s (lt_s (lt_s (lt_s (lt_s xokU160 xok160) xok161) xok162) xok163) xok164) xok165) xok166) xok167) xok168) xok169) xok170) xok171) xok172) xok173) xok174) xok175) xok176) xok177) xok178) xok179) xok180) xok181) xok182) xok183) xok184) xok185) xok186) xok187) xok188) xok189) xok190) xok191) xok192) xok193) xok194) xok195) xok196) xok197) xok198) xok199)
set_option maxRecDepth 100000 in
theorem xok200 : xokA 200 = true := by decide +kernel
set_option maxRecDepth 100000 in
theorem xok201 : xokA 201 = true := by decide +kernel
set_option maxRecDepth 100000 in
theorem xok202 : xokA 202 = true := by decide +kernel
set_option maxRecDepth 100000 in
theorem xok203 : xokA 203 = true := by decide +kernel
set_option maxRecDepth 100000 in
theorem xok204 : xokA 204 = true := by decide +kernel
set_option maxRecDepth 100000 in
theorem xok205 : xokA 205 = true := by decide +kernel
set_option maxRecDepth 100000 in
theorem xok206 : xokA 206 = true := by decide +kernel
set_option maxRecDepth 100000 in
theorem xok207 : xokA 207 = true := by decide +kernel
set_option maxRecDepth 100000 in
theorem xok208 : xokA 208 = true := by decide +kernel
set_option maxRecDepth 100000 in
theorem xok209 : xokA 209 = true := by decide +kernel
set_option maxRecDepth 100000 in
theorem xok210 : xokA 210 = true := by decide +kernel
set_option maxRecDepth 100000 in
theorem xok211 : xokA 211 = true := by decide +kernel
set_option maxRecDepth 100000 in
theorem xok212 : xokA 212 = true := by decide +kernel
set_option maxRecDepth 100000 in
theorem xok213 : xokA 213 = true := by decide +kernel
set_option maxRecDepth 100000 in
theorem xok214 : xokA 214 = true := by decide +kernel
set_option maxRecDepth 100000 in
theorem xok215 : xokA 215 = true := by decide +kernel
set_option maxRecDepth 100000 in
theorem xok216 : xokA 216 = true := by decide +kernel
set_option maxRecDepth 100000 in
theorem xok217 : xokA 217 = true := by decide +kernel
set_option maxRecDepth 100000 in
theorem xok218 : xokA 218 = true := by decide +kernel
set_option maxRecDepth 100000 in
theorem xok219 : xokA 219 = true := by decide +kernel
set_option maxRecDepth 100000 in
theorem xok220 : xokA 220 = true := by decide +kernel
set_option maxRecDepth 100000 in
theorem xok221 : xokA 221 = true := by decide +kernel
set_option maxRecDepth 100000 in
theorem xok222 : xokA 222 = true := by decide +kernel
set_option maxRecDepth 100000 in
theorem xok223 : xokA 223 = true := by decide +kernel
set_option maxRecDepth 100000 in
theorem xok224 : xokA 224 = true := by decide +kernel
set_option maxRecDepth 100000 in
theorem xok225 : xokA 225 = true := by decide +kernel
set_option maxRecDepth 100000 in
theorem xok226 : xokA 226 = true := by decide +kernel
set_option maxRecDepth 100000 in
theorem xok227 : xokA 227 = true := by decide +kernel
set_option maxRecDepth 100000 in
theorem xok228 : xokA 228 = true := by decide +kernel
set_option maxRecDepth 100000 in
theorem xok229 : xokA 229 = true := by decide +kernel
set_option maxRecDepth 100000 in
theorem xok230 : xokA 230 = true := by decide +kernel
set_option maxRecDepth 100000 in
theorem xok231 : xokA 231 = true := by decide +kernel
set_option maxRecDepth 100000 in
theorem xok232 : xokA 232 = true := by decide +kernel
set_option maxRecDepth 100000 in
theorem xok233 : xokA 233 = true := by decide +kernel
set_option maxRecDepth 100000 in
theorem xok234 : xokA 234 = true := by decide +kernel
set_option maxRecDepth 100000 in
theorem xok235 : xokA 235 = true := by decide +kernel
set_option maxRecDepth 100000 in
theorem xok236 : xokA 236 = true := by decide +kernel
set_option maxRecDepth 100000 in
theorem xok237 : xokA 237 = true := by decide +kernel
set_option maxRecDepth 100000 in
theorem xok238 : xokA 238 = true := by decide +kernel
set_option maxRecDepth 100000 in
theorem xok239 : xokA 239 = true := by decide +kernel
theorem xokU240 : ∀ a, a < 240 → xokA a = true := (lt_s (lt_s (lt_s (lt_s (lt_s (lt_s (lt_s (lt_s (lt_s (lt_s (lt_s (lt_s (lt_s (lt_s (lt_s (lt_s (lt_s (lt_s (lt_s (lt_s (lt_s (lt_s (lt_s (lt_s (lt_s (lt_s (lt_s (lt_s (lt_s (lt_s (lt_s (lt_s (lt_s (lt_s (lt_s (lt_s (lt_s (lt_s (lt_s (lt_s xokU200 xok200) xok201) xok202) xok203) xok204) xok205) xok206) xok207) xok208) xok209) xok210) xok211) xok212) xok213) xok214) xok215) xok216) xok217) xok218) xok219) xok220) xok221) xok222) xok223) xok224) xok225) xok226) xok227) xok228) xok229) xok230) xok231) xok232) xok233) xok234) xok235) xok236) xok237) xok238) xok239)
set_option maxRecDepth 100000 in
theorem xok240 : xokA 240 = true := by decide +kernel
set_option maxRecDepth 100000 in
theorem xok241 : xokA 241 = true := by decide +kernel
set_option maxRecDepth 100000 in
theorem xok242 : xokA 242 = true := by decide +kernel
set_option maxRecDepth 100000 in
theorem xok243 : xokA 243 = true := by decide +kernel
set_option maxRecDepth 100000 in
theorem xok244 : xokA 244 = true := by decide +kernel
set_option maxRecDepth 100000 in
theorem xok245 : xokA 245 = true := by decide +kernel
set_option maxRecDepth 100000 in
theorem xok246 : xokA 246 = true := by decide +kernel
set_option maxRecDepth 100000 in
theorem xok247 : xokA 247 = true := by decide +kernel
set_option maxRecDepth 100000 in
theorem xok248 : xokA 248 = true := by decide +kernel
set_option maxRecDepth 100000 in
theorem xok249 : xokA 249 = true := by decide +kernel
set_option maxRecDepth 100000 in
theorem xok250 : xokA 250 = true := by decide +kernel
set_option maxRecDepth 100000 in
theorem xok251 : xokA 251 = true := by decide +kernel
set_option maxRecDepth 100000 in
theorem xok252 : xokA 252 = true := by decide +kernel
set_option maxRecDepth 100000 in
theorem xok253 : xokA 253 = true := by decide +kernel
set_option maxRecDepth 100000 in
theorem xok254 : xokA 254 = true := by decide +kernel
set_option maxRecDepth 100000 in
theorem xok255 : xokA 255 = true := by decide +kernel
set_option maxRecDepth 100000 in
theorem xok256 : xokA 256 = true := by decide +kernel
set_option maxRecDepth 100000 in
theorem xok257 : xokA 257 = true := by decide +kernel
set_option maxRecDepth 100000 in
theorem xok258 : xokA 258 = true := by decide +kernel
set_option maxRecDepth 100000 in
theorem xok259 : xokA 259 = true := by decide +kernel
set_option maxRecDepth 100000 in
theorem xok260 : xokA 260 = true := by decide +kernel
set_option maxRecDepth 100000 in
theorem xok261 : xokA 261 = true := by decide +kernel
set_option maxRecDepth 100000 in
theorem xok262 : xokA 262 = true := by decide +kernel
set_option maxRecDepth 100000 in
theorem xok263 : xokA 263 = true := by decide +kernel
set_option maxRecDepth 100000 in
theorem xok264 : xokA 264 = true := by decide +kernel
set_option maxRecDepth 100000 in
theorem xok265 : xokA 265 = true := by decide +kernel
set_option maxRecDepth 100000 in
theorem xok266 : xokA 266 = true := by decide +kernel
set_option maxRecDepth 100000 in
theorem xok267 : xokA 267 = true := by decide +kernel
set_option maxRecDepth 100000 in
theorem xok268 : xokA 268 = true := by decide +kernel
set_option maxRecDepth 100000 in
theorem xok269 : xokA 269 = true := by decide +kernel
set_option maxRecDepth 100000 in
theorem xok270 : xokA 270 = true := by decide +kernel
set_option maxRecDepth 100000 in
theorem xok271 : xokA 271 = true := by decide +kernel
set_option maxRecDepth 100000 in
theorem xok272 : xokA 272 = true := by decide +kernel
set_option maxRecDepth 100000 in
theorem xok273 : xokA 273 = true := by decide +kernel
set_option maxRecDepth 100000 in
theorem xok274 : xokA 274 = true := by decide +kernel
set_option maxRecDepth 100000 in
theorem xok275 : xokA 275 = true := by decide +kernel
set_option maxRecDepth 100000 in
theorem xok276 : xokA 276 = true := by decide +kernel
set_option maxRecDepth 100000 in
theorem xok277 : xokA 277 = true := by decide +kernel
set_option maxRecDepth 100000 in
theorem xok278 : xokA 278 = true := by decide +kernel
set_option maxRecDepth 100000 in
theorem xok279 : xokA 279 = true := by decide +kernel
theorem xokU280 : ∀ a, a < 280 → xokA a = true := (lt_s (lt_s (lt_s (lt_s (lt_s (lt_s (lt_s (lt_s (lt_s (lt_s (lt_s (lt_s (lt_s (lt_s (lt_s (lt_s (lt_s (lt_s (lt_s (lt_s (lt_s (lt_s (lt_s (lt_s (lt_s (lt_s (lt_s (lt_s (lt_s (lt_s (lt_s (lt_s (lt_s (lt_s (lt_s (lt_s (lt_s (lt_s (lt_s (lt_s xokU240 xok240) xok241) xok242) xok243) xok244) xok245) xok246) xok247) xok248) xok249) xok250) xok251) xok252) xok253) xok254) xok255) xok256) xok257) xok258) xok259) xok260) xok261) xok262) xok263) xok264) xok265) xok266) xok267) xok268) xok269) xok270) xok271) xok272) xok273) xok274) xok275) xok276) xok277) xok278) xok279)
set_option maxRecDepth 100000 in
theorem xok280 : xokA 280 = true := by decide +kernel
set_option maxRecDepth 100000 in
theorem xok281 : xokA 281 = true := by decide +kernel
set_option maxRecDepth 100000 in
theorem xok282 : xokA 282 = true := by decide +kernel
set_option maxRecDepth 100000 in
theorem xok283 : xokA 283 = true := by decide +kernel
set_option maxRecDepth 100000 in
theorem xok284 : xokA 284 = true := by decide +kernel
set_option maxRecDepth 100000 in
theorem xok285 : xokA 285 = true := by decide +kernel
set_option maxRecDepth 100000 in
theorem xok286 : xokA 286 = true := by decide +kernel
set_option maxRecDepth 100000 in
theorem xok287 : xokA 287 = true := by decide +kernel
set_option maxRecDepth 100000 in
theorem xok288 : xokA 288 = true := by decide +kernel
set_option maxRecDepth 100000 in
theorem xok289 : xokA 289 = true := by decide +kernel
set_option maxRecDepth 100000 in
theorem xok290 : xokA 290 = true := by decide +kernel
set_option maxRecDepth 100000 in
theorem xok291 : xokA 291 = true := by decide +kernel
set_option maxRecDepth 100000 in
theorem xok292 : xokA 292 = true := by decide +kernel
set_option maxRecDepth 100000 in
theorem xok293 : xokA 293 = true := by decide +kernel
set_option maxRecDepth 100000 in
theorem xok294 : xokA 294 = true := by decide +kernel
set_option maxRecDepth 100000 in
theorem xok295 : xokA 295 = true := by decide +kernel
set_option maxRecDepth 100000 in
theorem xok296 : xokA 296 = true := by decide +kernel
set_option maxRecDepth 100000 in
theorem xok297 : xokA 297 = true := by decide +kernel
set_option maxRecDepth 100000 in
theorem xok298 : xokA 298 = true := by decide +kernel
set_option maxRecDepth 100000 in
theorem xok299 : xokA 299 = true := by decide +kernel
set_option maxRecDepth 100000 in
theorem xok300 : xokA 300 = true := by decide +kernel
set_option maxRecDepth 100000 in
theorem xok301 : xokA 301 = true := by decide +kernel
set_option maxRecDepth 100000 in
theorem xok302 : xokA 302 = true := by decide +kernel
set_option maxRecDepth 100000 in
theorem xok303 : xokA 303 = true := by decide +kernel
theorem xokU304 : ∀ a, a < 304 → xokA a = true := (lt_s (lt_s (lt_s (lt_s (lt_s (lt_s (lt_s (lt_s (lt_s (lt_s (lt_s (lt_s (lt_s (lt_s (lt_s (lt_s (lt_s (lt_s (lt_s (lt_s (lt_s (lt_s (lt_s (lt_s xokU280 xok280) xok281) xok282) xok283) xok284) xok285) xok286) xok287) xok288) xok289) xok290) xok291) xok292) xok293) xok294) xok295) xok296) xok297) xok298) xok299) xok300) xok301) xok302) xok303)
theorem xok304 : xokM 304 = true := by decide +kernel
set_option maxRecDepth 100000 in
theorem xokL0 : xokB 304 0 200 = true := by decide +kernel
set_option maxRecDepth 100000 in
theorem xokL1 : xokB 304 200 200 = true := by decide +kernel
set_option maxRecDepth 100000 in
theorem xokL2 : xokB 304 400 200 = true := by decide +kernel
set_option maxRecDepth 100000 in
theorem xokL3 : xokB 304 600 200 = true := by decide +kernel
set_option maxRecDepth 100000 in
theorem xokL4 : xokB 304 800 200 = true := by decide +kernel
set_option maxRecDepth 100000 in
theorem xokL5 : xokB 304 1000 200 = true := by decide +kernel
set_option maxRecDepth 100000 in
theorem xokL6 : xokB 304 1200 200 = true := by decide +kernel
set_option maxRecDepth 100000 in
theorem xokL7 : xokB 304 1400 200 = true := by decide +kernel
set_option maxRecDepth 100000 in
theorem xokL8 : xokB 304 1600 200 = true := by decide +kernel
set_option maxRecDepth 100000 in
theorem xokL9 : xokB 304 1800 200 = true := by decide +kernel
set_option maxRecDepth 100000 in
theorem xokL10 : xokB 304 2000 200 = true := by decide +kernel
set_option maxRecDepth 100000 in
theorem xokL11 : xokB 304 2200 200 = true := by decide +kernel
set_option maxRecDepth 100000 in
theorem xokL12 : xokB 304 2400 200 = true := by decide +kernel
set_option maxRecDepth 100000 in
theorem xokL13 : xokB 304 2600 200 = true := by decide +kernel
set_option maxRecDepth 100000 in
theorem xokL14 : xokB 304 2800 200 = true := by decide +kernel
theorem xokLQ : xokQ 304 := by
  refine ⟨xok304, fun pc x hx => ?_⟩
  have hlt : pc < 3000 := Nat.lt_of_lt_of_le (xcod_lt hx) (by decide +kernel)
  rcases Nat.lt_or_ge pc 200 with h | h0
  · exact xokB_use xokL0 (by omega) (by omega) hx
  rcases Nat.lt_or_ge pc 400 with h | h1
  · exact xokB_use xokL1 (by omega) (by omega) hx
  rcases Nat.lt_or_ge pc 600 with h | h2
  · exact xokB_use xokL2 (by omega) (by omega) hx
  rcases Nat.lt_or_ge pc 800 with h | h3
  · exact xokB_use xokL3 (by omega) (by omega) hx
  rcases Nat.lt_or_ge pc 1000 with h | h4
  · exact xokB_use xokL4 (by omega) (by omega) hx
  rcases Nat.lt_or_ge pc 1200 with h | h5
  · exact xokB_use xokL5 (by omega) (by omega) hx
  rcases Nat.lt_or_ge pc 1400 with h | h6
  · exact xokB_use xokL6 (by omega) (by omega) hx
  rcases Nat.lt_or_ge pc 1600 with h | h7
  · exact xokB_use xokL7 (by omega) (by omega) hx
  rcases Nat.lt_or_ge pc 1800 with h | h8
  · exact xokB_use xokL8 (by omega) (by omega) hx
  rcases Nat.lt_or_ge pc 2000 with h | h9
  · exact xokB_use xokL9 (by omega) (by omega) hx
  rcases Nat.lt_or_ge pc 2200 with h | h10
  · exact xokB_use xokL10 (by omega) (by omega) hx
  rcases Nat.lt_or_ge pc 2400 with h | h11
  · exact xokB_use xokL11 (by omega) (by omega) hx
  rcases Nat.lt_or_ge pc 2600 with h | h12
  · exact xokB_use xokL12 (by omega) (by omega) hx
  rcases Nat.lt_or_ge pc 2800 with h | h13
  · exact xokB_use xokL13 (by omega) (by omega) hx
  rcases Nat.lt_or_ge pc 3000 with h | h14
  · exact xokB_use xokL14 (by omega) (by omega) hx
  exact absurd hlt (by omega)
theorem xok_all : ∀ a, a < 305 → xokQ a := lt_s (fun a h => xokA_use (xokU304 a h)) xokLQ

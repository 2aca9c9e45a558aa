set_option maxRecDepth 100000 in
theorem xok120 : xokA 120 = true := by decide +kernel
set_option maxRecDepth 100000 in
theorem xok121 : xokA 121 = true := by decide +kernel
set_option maxRecDepth 100000 in
theorem xok122 : xokA 122 = true := by decide +kernel
set_option maxRecDepth 100000 in
theorem xok123 : xokA 123 = true := by decide +kernel
set_option maxRecDepth 100000 in
theorem xok124 : xokA 124 = true := by decide +kernel
set_option maxRecDepth 100000 in
theorem xok125 : xokA 125 = true := by decide +kernel
set_option maxRecDepth 100000 in
theorem xok126 : xokA 126 = true := by decide +kernel
set_option maxRecDepth 100000 in
theorem xok127 : xokA 127 = true := by decide +kernel
set_option maxRecDepth 100000 in
theorem xok128 : xokA 128 = true := by decide +kernel
set_option maxRecDepth 100000 in
theorem xok129 : xokA 129 = true := by decide +kernel
set_option maxRecDepth 100000 in
theorem xok130 : xokA 130 = true := by decide +kernel
set_option maxRecDepth 100000 in
theorem xok131 : xokA 131 = true := by decide +kernel
set_option maxRecDepth 100000 in
theorem xok132 : xokA 132 = true := by decide +kernel
set_option maxRecDepth 100000 in
theorem xok133 : xokA 133 = true := by decide +kernel
set_option maxRecDepth 100000 in
theorem xok134 : xokA 134 = true := by decide +kernel
set_option maxRecDepth 100000 in
theorem xok135 : xokA 135 = true := by decide +kernel
set_option maxRecDepth 100000 in
theorem xok136 : xokA 136 = true := by decide +kernel
set_option maxRecDepth 100000 in
theorem xok137 : xokA 137 = true := by decide +kernel
set_option maxRecDepth 100000 in
theorem xok138 : xokA 138 = true := by decide +kernel
set_option maxRecDepth 100000 in
theorem xok139 : xokA 139 = true := by decide +kernel
set_option maxRecDepth 100000 in
theorem xok140 : xokA 140 = true := by decide +kernel
set_option maxRecDepth 100000 in
theorem xok141 : xokA 141 = true := by decide +kernel
set_option maxRecDepth 100000 in
theorem xok142 : xokA 142 = true := by decide +kernel
set_option maxRecDepth 100000 in
theorem xok143 : xokA 143 = true := by decide +kernel
set_option maxRecDepth 100000 in
theorem xok144 : xokA 144 = true := by decide +kernel
set_option maxRecDepth 100000 in
theorem xok145 : xokA 145 = true := by decide +kernel
set_option maxRecDepth 100000 in
theorem xok146 : xokA 146 = true := by decide +kernel
set_option maxRecDepth 100000 in
theorem xok147 : xokA 147 = true := by decide +kernel
set_option maxRecDepth 100000 in
theorem xok148 : xokA 148 = true := by decide +kernel
set_option maxRecDepth 100000 in
theorem xok149 : xokA 149 = true := by decide +kernel
set_option maxRecDepth 100000 in
theorem xok150 : xokA 150 = true := by decide +kernel
set_option maxRecDepth 100000 in
theorem xok151 : xokA 151 = true := by decide +kernel
set_option maxRecDepth 100000 in
theorem xok152 : xokA 152 = true := by decide +kernel
set_option maxRecDepth 100000 in
theorem xok153 : xokA 153 = true := by decide +kernel
set_option maxRecDepth 100000 in
theorem xok154 : xokA 154 = true := by decide +kernel
set_option maxRecDepth 100000 in
theorem xok155 : xokA 155 = true := by decide +kernel
set_option maxRecDepth 100000 in
theorem xok156 : xokA 156 = true := by decide +kernel
set_option maxRecDepth 100000 in
theorem xok157 : xokA 157 = true := by decide +kernel
set_option maxRecDepth 100000 in
theorem xok158 : xokA 158 = true := by decide +kernel
set_option maxRecDepth 100000 in
theorem xok159 : xokA 159 = true := by decide +kernel
theorem xokU160 : ∀ a, a < 160 → xokA a = true := (lt_s (lt_s (lt_s (lt_s (lt_s (lt_s (lt_s (lt_s (lt_s (lt_s (lt_s (lt_s (lt_s (lt_s (lt_s (lt_s (lt_s (lt_s (lt_s (lt_s (lt_s (lt_s (lt_s (lt_s (lt_s (lt_s (lt_s (lt_s (lt_s (lt_s (lt_s (lt_s (lt_s (lt_s (lt_s (lt_s (lt_s (lt_s (lt_s (lt_s xokU120 xok120) xok121) xok122) xok123) xok124) xok125) xok126) xok127) xok128) xok129) xok130) xok131) xok132) xok133) xok134) xok135) xok136) xok137) xok138) xok139) xok140) xok141) xok142) xok143) xok144) xok145) xok146) xok147) xok148) xok149) xok150) xok151) xok152) xok153) xok154) xok155) xok156) xok157) xok158) xok159)
set_option maxRecDepth 100000 in
theorem xok160 : xokA 160 = true := by decide +kernel
set_option maxRecDepth 100000 in
theorem xok161 : xokA 161 = true := by decide +kernel
set_option maxRecDepth 100000 in
theorem xok162 : xokA 162 = true := by decide +kernel
set_option maxRecDepth 100000 in
theorem xok163 : xokA 163 = true := by decide +kernel
set_option maxRecDepth 100000 in
theorem xok164 : xokA 164 = true := by decide +kernel
set_option maxRecDepth 100000 in
theorem xok165 : xokA 165 = true := by decide +kernel
set_option maxRecDepth 100000 in
theorem xok166 : xokA 166 = true := by decide +kernel
set_option maxRecDepth 100000 in
theorem xok167 : xokA 167 = true := by decide +kernel
set_option maxRecDepth 100000 in
theorem xok168 : xokA 168 = true := by decide +kernel
set_option maxRecDepth 100000 in
theorem xok169 : xokA 169 = true := by decide +kernel
set_option maxRecDepth 100000 in
theorem xok170 : xokA 170 = true := by decide +kernel
set_option maxRecDepth 100000 in
theorem xok171 : xokA 171 = true := by decide +kernel
set_option maxRecDepth 100000 in
theorem xok172 : xokA 172 = true := by decide +kernel
set_option maxRecDepth 100000 in
theorem xok173 : xokA 173 = true := by decide +kernel
set_option maxRecDepth 100000 in
theorem xok174 : xokA 174 = true := by decide +kernel
set_option maxRecDepth 100000 in
theorem xok175 : xokA 175 = true := by decide +kernel
set_option maxRecDepth 100000 in
theorem xok176 : xokA 176 = true := by decide +kernel
set_option maxRecDepth 100000 in
theorem xok177 : xokA 177 = true := by decide +kernel
set_option maxRecDepth 100000 in
theorem xok178 : xokA 178 = true := by decide +kernel
set_option maxRecDepth 100000 in
theorem xok179 : xokA 179 = true := by decide +kernel
set_option maxRecDepth 100000 in
theorem xok180 : xokA 180 = true := by decide +kernel
set_option maxRecDepth 100000 in
theorem xok181 : xokA 181 = true := by decide +kernel
set_option maxRecDepth 100000 in
theorem xok182 : xokA 182 = true := by decide +kernel
set_option maxRecDepth 100000 in
theorem xok183 : xokA 183 = true := by decide +kernel
set_option maxRecDepth 100000 in
theorem xok184 : xokA 184 = true := by decide +kernel
set_option maxRecDepth 100000 in
theorem xok185 : xokA 185 = true := by decide +kernel
set_option maxRecDepth 100000 in
theorem xok186 : xokA 186 = true := by decide +kernel
set_option maxRecDepth 100000 in
theorem xok187 : xokA 187 = true := by decide +kernel
set_option maxRecDepth 100000 in
theorem xok188 : xokA 188 = true := by decide +kernel
set_option maxRecDepth 100000 in
theorem xok189 : xokA 189 = true := by decide +kernel
set_option maxRecDepth 100000 in
theorem xok190 : xokA 190 = true := by decide +kernel
set_option maxRecDepth 100000 in
theorem xok191 : xokA 191 = true := by decide +kernel
set_option maxRecDepth 100000 in
theorem xok192 : xokA 192 = true := by decide +kernel
set_option maxRecDepth 100000 in
theorem xok193 : xokA 193 = true := by decide +kernel
set_option maxRecDepth 100000 in
theorem xok194 : xokA 194 = true := by decide +kernel
set_option maxRecDepth 100000 in
theorem xok195 : xokA 195 = true := by decide +kernel
set_option maxRecDepth 100000 in
theorem xok196 : xokA 196 = true := by decide +kernel
set_option maxRecDepth 100000 in
theorem xok197 : xokA 197 = true := by decide +kernel
set_option maxRecDepth 100000 in
theorem xok198 : xokA 198 = true := by decide +kernel
set_option maxRecDepth 100000 in
theorem xok199 : xokA 199 = true := by decide +kernel
theorem xokU200 : ∀ a, a < 200 → xokA a = true := (lt_s (lt_s (lt_s (lt_s (lt_s (lt_s (lt_s (lt_s (lt_s (lt_s (lt_s (lt_s (lt_s (lt_s (lt_s (lt_s (lt_s (lt_s (lt_s (lt_s (lt_s (lt_s (lt_s (lt_s (lt_s (lt_s (lt_s (lt_s (lt_s (lt_s (lt_s (lt_s (lt_s (lt_s (lt_s (lt_s (lt_s (lt_s (lt_s (lt_s xokU160 xok160) xok161) xok162) xok163) xok164) xok165) xok166) xok167) xok168) xok169) xok170) xok171) xok172) xok173) xok174) xok175) xok176) xok177) xok178) xok179) xok180) xok181) xok182) xok183) xok184) xok185) xok186) xok187) xok188) xok189) xok190) xok191) xok192) xok193) xok194) xok195) xok196) xok197) xok198) xok199)

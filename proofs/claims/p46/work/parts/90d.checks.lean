set_option maxRecDepth 100000 in
theorem xok120 : xokA 120 = true := by decide +kernel
set_option maxRecDepth 100000 in
theorem xok121 : xokA 121 = true := by decide +kernel
set_option maxRecDepth 100000 in
theorem xok122 : xokA 122 = true := by decide +kernel
set_option maxRecDepth 100000 in
theorem xok123 : xokA 123 = true := by decide +kernel
set_option maxRecDepth 100000 in
theorem xok124 : xokA 124 = true := by decide +kernel
set_option maxRecDepth 100000 in
theorem xok125 : xokA 125 = true := by decide +kernel
set_option maxRecDepth 100000 in
theorem xok126 : xokA 126 = true := by decide +kernel
set_option maxRecDepth 100000 in
theorem xok127 : xokA 127 = true := by decide +kernel
set_option maxRecDepth 100000 in
theorem xok128 : xokA 128 = true := by decide +kernel
set_option maxRecDepth 100000 in
theorem xok129 : xokA 129 = true := by decide +kernel
set_option maxRecDepth 100000 in
theorem xok130 : xokA 130 = true := by decide +kernel
set_option maxRecDepth 100000 in
theorem xok131 : xokA 131 = true := by decide +kernel
set_option maxRecDepth 100000 in
theorem xok132 : xokA 132 = true := by decide +kernel
set_option maxRecDepth 100000 in
theorem xok133 : xokA 133 = true := by decide +kernel
set_option maxRecDepth 100000 in
theorem xok134 : xokA 134 = true := by decide +kernel
set_option maxRecDepth 100000 in
theorem xok135 : xokA 135 = true := by decide +kernel
set_option maxRecDepth 100000 in
theorem xok136 : xokA 136 = true := by decide +kernel
set_option maxRecDepth 100000 in
theorem xok137 : xokA 137 = true := by decide +kernel
set_option maxRecDepth 100000 in
theorem xok138 : xokA 138 = true := by decide +kernel
set_option maxRecDepth 100000 in
theorem xok139 : xokA 139 = true := by decide +kernel
set_option maxRecDepth 100000 in
theorem xok140 : xokA 140 = true := by decide +kernel
set_option maxRecDepth 100000 in
theorem xok141 : xokA 141 = true := by decide +kernel
set_option maxRecDepth 100000 in
theorem xok142 : xokA 142 = true := by decide +kernel
set_option maxRecDepth 100000 in
theorem xok143 : xokA 143 = true := by decide +kernel
set_option maxRecDepth 100000 in
theorem xok144 : xokA 144 = true := by decide +kernel
set_option maxRecDepth 100000 in
theorem xok145 : xokA 145 = true := by decide +kernel
set_option maxRecDepth 100000 in
theorem xok146 : xokA 146 = true := by decide +kernel
set_option maxRecDepth 100000 in
theorem xok147 : xokA 147 = true := by decide +kernel
set_option maxRecDepth 100000 in
theorem xok148 : xokA 148 = true := by decide +kernel
set_option maxRecDepth 100000 in
theorem xok149 : xokA 149 = true := by decide +kernel
set_option maxRecDepth 100000 in
theorem xok150 : xokA 150 = true := by decide +kernel
set_option maxRecDepth 100000 in
theorem xok151 : xokA 151 = true := by decide +kernel
set_option maxRecDepth 100000 in
theorem xok152 : xokA 152 = true := by decide +kernel
set_option maxRecDepth 100000 in
theorem xok153 : xokA 153 = true := by decide +kernel
set_option maxRecDepth 100000 in
theorem xok154 : xokA 154 = true := by decide +kernel
set_option maxRecDepth 100000 in
theorem xok155 : xokA 155 = true := by decide +kernel
set_option maxRecDepth 100000 in
theorem xok156 : xokA 156 = true := by decide +kernel
set_option maxRecDepth 100000 in
theorem xok157 : xokA 157 = true := by decide +kernel
set_option maxRecDepth 100000 in
theorem xok158 : xokA 158 = true := by decide +kernel
set_option maxRecDepth 100000 in
theorem xok159 : xokA 159 = true := by decide +kernel
theorem xokU160 : ∀ a, a < 160 → xokA a = true := (lt_s (lt_s (lt_s (lt_s (lt_s (lt_s (lt_s (lt_s (lt_s (lt_s (lt_s (lt_s (lt_s (lt_s (lt_s (lt_s (lt_s (lt_s (lt_s (lt_s (lt_s (lt_s (lt_s (lt_s (lt_s (lt_s (lt_s (lt_s (lt_s (lt_s (lt_s (lt_s (lt_s (lt_s (lt_s (lt_s (lt_s (lt_s (lt_s (lt_s xokU120 xok120) xok121) xok122) xok123) xok124) xok125) xok126) xok127) xok128) xok129) xok130) xok131) xok132) xok133) xok134) xok135) xok136) xok137) xok138) xok139) xok140) xok141) xok142) xok143) xok144) xok145) xok146) xok147) xok148) xok149) xok150) xok151) xok152) xok153) xok154) xok155) xok156) xok157) xok158) xok159)

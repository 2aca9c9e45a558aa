set_option maxRecDepth 100000 in
theorem xok160 : xokA 160 = true := by decide +kernel
set_option maxRecDepth 100000 in
theorem xok161 : xokA 161 = true := by decide +kernel
set_option maxRecDepth 100000 in
theorem xok162 : xokA 162 = true := by decide +kernel
set_option maxRecDepth 100000 in
theorem xok163 : xokA 163 = true := by decide +kernel
set_option maxRecDepth 100000 in
theorem xok164 : xokA 164 = true := by decide +kernel
set_option maxRecDepth 100000 in
theorem xok165 : xokA 165 = true := by decide +kernel
set_option maxRecDepth 100000 in
theorem xok166 : xokA 166 = true := by decide +kernel
set_option maxRecDepth 100000 in
theorem xok167 : xokA 167 = true := by decide +kernel
set_option maxRecDepth 100000 in
theorem xok168 : xokA 168 = true := by decide +kernel
set_option maxRecDepth 100000 in
theorem xok169 : xokA 169 = true := by decide +kernel
set_option maxRecDepth 100000 in
theorem xok170 : xokA 170 = true := by decide +kernel
set_option maxRecDepth 100000 in
theorem xok171 : xokA 171 = true := by decide +kernel
set_option maxRecDepth 100000 in
theorem xok172 : xokA 172 = true := by decide +kernel
set_option maxRecDepth 100000 in
theorem xok173 : xokA 173 = true := by decide +kernel
set_option maxRecDepth 100000 in
theorem xok174 : xokA 174 = true := by decide +kernel
set_option maxRecDepth 100000 in
theorem xok175 : xokA 175 = true := by decide +kernel
set_option maxRecDepth 100000 in
theorem xok176 : xokA 176 = true := by decide +kernel
set_option maxRecDepth 100000 in
theorem xok177 : xokA 177 = true := by decide +kernel
theorem xokU178 : ∀ a, a < 178 → xokA a = true := (lt_s (lt_s (lt_s (lt_s (lt_s (lt_s (lt_s (lt_s (lt_s (lt_s (lt_s (lt_s (lt_s (lt_s (lt_s (lt_s (lt_s (lt_s xokU160 xok160) xok161) xok162) xok163) xok164) xok165) xok166) xok167) xok168) xok169) xok170) xok171) xok172) xok173) xok174) xok175) xok176) xok177)

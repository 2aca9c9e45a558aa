set_option maxRecDepth 100000 in
theorem xok200 : xokA 200 = true := by decide +kernel
set_option maxRecDepth 100000 in
theorem xok201 : xokA 201 = true := by decide +kernel
set_option maxRecDepth 100000 in
theorem xok202 : xokA 202 = true := by decide +kernel
set_option maxRecDepth 100000 in
theorem xok203 : xokA 203 = true := by decide +kernel
set_option maxRecDepth 100000 in
theorem xok204 : xokA 204 = true := by decide +kernel
set_option maxRecDepth 100000 in
theorem xok205 : xokA 205 = true := by decide +kernel
set_option maxRecDepth 100000 in
theorem xok206 : xokA 206 = true := by decide +kernel
set_option maxRecDepth 100000 in
theorem xok207 : xokA 207 = true := by decide +kernel
set_option maxRecDepth 100000 in
theorem xok208 : xokA 208 = true := by decide +kernel
set_option maxRecDepth 100000 in
theorem xok209 : xokA 209 = true := by decide +kernel
set_option maxRecDepth 100000 in
theorem xok210 : xokA 210 = true := by decide +kernel
set_option maxRecDepth 100000 in
theorem xok211 : xokA 211 = true := by decide +kernel
set_option maxRecDepth 100000 in
theorem xok212 : xokA 212 = true := by decide +kernel
set_option maxRecDepth 100000 in
theorem xok213 : xokA 213 = true := by decide +kernel
set_option maxRecDepth 100000 in
theorem xok214 : xokA 214 = true := by decide +kernel
set_option maxRecDepth 100000 in
theorem xok215 : xokA 215 = true := by decide +kernel
set_option maxRecDepth 100000 in
theorem xok216 : xokA 216 = true := by decide +kernel
set_option maxRecDepth 100000 in
theorem xok217 : xokA 217 = true := by decide +kernel
set_option maxRecDepth 100000 in
theorem xok218 : xokA 218 = true := by decide +kernel
set_option maxRecDepth 100000 in
theorem xok219 : xokA 219 = true := by decide +kernel
set_option maxRecDepth 100000 in
theorem xok220 : xokA 220 = true := by decide +kernel
set_option maxRecDepth 100000 in
theorem xok221 : xokA 221 = true := by decide +kernel
set_option maxRecDepth 100000 in
theorem xok222 : xokA 222 = true := by decide +kernel
set_option maxRecDepth 100000 in
theorem xok223 : xokA 223 = true := by decide +kernel
set_option maxRecDepth 100000 in
theorem xok224 : xokA 224 = true := by decide +kernel
set_option maxRecDepth 100000 in
theorem xok225 : xokA 225 = true := by decide +kernel
set_option maxRecDepth 100000 in
theorem xok226 : xokA 226 = true := by decide +kernel
set_option maxRecDepth 100000 in
theorem xok227 : xokA 227 = true := by decide +kernel
set_option maxRecDepth 100000 in
theorem xok228 : xokA 228 = true := by decide +kernel
set_option maxRecDepth 100000 in
theorem xok229 : xokA 229 = true := by decide +kernel
set_option maxRecDepth 100000 in
theorem xok230 : xokA 230 = true := by decide +kernel
set_option maxRecDepth 100000 in
theorem xok231 : xokA 231 = true := by decide +kernel
set_option maxRecDepth 100000 in
theorem xok232 : xokA 232 = true := by decide +kernel
set_option maxRecDepth 100000 in
theorem xok233 : xokA 233 = true := by decide +kernel
set_option maxRecDepth 100000 in
theorem xok234 : xokA 234 = true := by decide +kernel
set_option maxRecDepth 100000 in
theorem xok235 : xokA 235 = true := by decide +kernel
set_option maxRecDepth 100000 in
theorem xok236 : xokA 236 = true := by decide +kernel
set_option maxRecDepth 100000 in
theorem xok237 : xokA 237 = true := by decide +kernel
set_option maxRecDepth 100000 in
theorem xok238 : xokA 238 = true := by decide +kernel
set_option maxRecDepth 100000 in
theorem xok239 : xokA 239 = true := by decide +kernel
theorem xokU240 : ∀ a, a < 240 → xokA a = true := (lt_s (lt_s (lt_s (lt_s (lt_s (lt_s (lt_s (lt_s (lt_s (lt_s (lt_s (lt_s (lt_s (lt_s (lt_s (lt_s (lt_s (lt_s (lt_s (lt_s (lt_s (lt_s (lt_s (lt_s (lt_s (lt_s (lt_s (lt_s (lt_s (lt_s (lt_s (lt_s (lt_s (lt_s (lt_s (lt_s (lt_s (lt_s (lt_s (lt_s xokU200 xok200) xok201) xok202) xok203) xok204) xok205) xok206) xok207) xok208) xok209) xok210) xok211) xok212) xok213) xok214) xok215) xok216) xok217) xok218) xok219) xok220) xok221) xok222) xok223) xok224) xok225) xok226) xok227) xok228) xok229) xok230) xok231) xok232) xok233) xok234) xok235) xok236) xok237) xok238) xok239)
set_option maxRecDepth 100000 in
theorem xok240 : xokA 240 = true := by decide +kernel
set_option maxRecDepth 100000 in
theorem xok241 : xokA 241 = true := by decide +kernel
set_option maxRecDepth 100000 in
theorem xok242 : xokA 242 = true := by decide +kernel
set_option maxRecDepth 100000 in
theorem xok243 : xokA 243 = true := by decide +kernel
set_option maxRecDepth 100000 in
theorem xok244 : xokA 244 = true := by decide +kernel
set_option maxRecDepth 100000 in
theorem xok245 : xokA 245 = true := by decide +kernel
set_option maxRecDepth 100000 in
theorem xok246 : xokA 246 = true := by decide +kernel
set_option maxRecDepth 100000 in
theorem xok247 : xokA 247 = true := by decide +kernel
set_option maxRecDepth 100000 in
theorem xok248 : xokA 248 = true := by decide +kernel
set_option maxRecDepth 100000 in
theorem xok249 : xokA 249 = true := by decide +kernel
set_option maxRecDepth 100000 in
theorem xok250 : xokA 250 = true := by decide +kernel
set_option maxRecDepth 100000 in
theorem xok251 : xokA 251 = true := by decide +kernel
set_option maxRecDepth 100000 in
theorem xok252 : xokA 252 = true := by decide +kernel
set_option maxRecDepth 100000 in
theorem xok253 : xokA 253 = true := by decide +kernel
set_option maxRecDepth 100000 in
theorem xok254 : xokA 254 = true := by decide +kernel
set_option maxRecDepth 100000 in
theorem xok255 : xokA 255 = true := by decide +kernel
set_option maxRecDepth 100000 in
theorem xok256 : xokA 256 = true := by decide +kernel
set_option maxRecDepth 100000 in
theorem xok257 : xokA 257 = true := by decide +kernel
set_option maxRecDepth 100000 in
theorem xok258 : xokA 258 = true := by decide +kernel
set_option maxRecDepth 100000 in
theorem xok259 : xokA 259 = true := by decide +kernel
set_option maxRecDepth 100000 in
theorem xok260 : xokA 260 = true := by decide +kernel
set_option maxRecDepth 100000 in
theorem xok261 : xokA 261 = true := by decide +kernel
set_option maxRecDepth 100000 in
theorem xok262 : xokA 262 = true := by decide +kernel
set_option maxRecDepth 100000 in
theorem xok263 : xokA 263 = true := by decide +kernel
set_option maxRecDepth 100000 in
theorem xok264 : xokA 264 = true := by decide +kernel
set_option maxRecDepth 100000 in
theorem xok265 : xokA 265 = true := by decide +kernel
set_option maxRecDepth 100000 in
theorem xok266 : xokA 266 = true := by decide +kernel
set_option maxRecDepth 100000 in
theorem xok267 : xokA 267 = true := by decide +kernel
set_option maxRecDepth 100000 in
theorem xok268 : xokA 268 = true := by decide +kernel
set_option maxRecDepth 100000 in
theorem xok269 : xokA 269 = true := by decide +kernel
set_option maxRecDepth 100000 in
theorem xok270 : xokA 270 = true := by decide +kernel
set_option maxRecDepth 100000 in
theorem xok271 : xokA 271 = true := by decide +kernel
set_option maxRecDepth 100000 in
theorem xok272 : xokA 272 = true := by decide +kernel
set_option maxRecDepth 100000 in
theorem xok273 : xokA 273 = true := by decide +kernel
set_option maxRecDepth 100000 in
theorem xok274 : xokA 274 = true := by decide +kernel
set_option maxRecDepth 100000 in
theorem xok275 : xokA 275 = true := by decide +kernel
set_option maxRecDepth 100000 in
theorem xok276 : xokA 276 = true := by decide +kernel
set_option maxRecDepth 100000 in
theorem xok277 : xokA 277 = true := by decide +kernel
set_option maxRecDepth 100000 in
theorem xok278 : xokA 278 = true := by decide +kernel
set_option maxRecDepth 100000 in
theorem xok279 : xokA 279 = true := by decide +kernel
theorem xokU280 : ∀ a, a < 280 → xokA a = true := (lt_s (lt_s (lt_s (lt_s (lt_s (lt_s (lt_s (lt_s (lt_s (lt_s (lt_s (lt_s (lt_s (lt_s (lt_s (lt_s (lt_s (lt_s (lt_s (lt_s (lt_s (lt_s (lt_s (lt_s (lt_s (lt_s (lt_s (lt_s (lt_s (lt_s (lt_s (lt_s (lt_s (lt_s (lt_s (lt_s (lt_s (lt_s (lt_s (lt_s xokU240 xok240) xok241) xok242) xok243) xok244) xok245) xok246) xok247) xok248) xok249) xok250) xok251) xok252) xok253) xok254) xok255) xok256) xok257) xok258) xok259) xok260) xok261) xok262) xok263) xok264) xok265) xok266) xok267) xok268) xok269) xok270) xok271) xok272) xok273) xok274) xok275) xok276) xok277) xok278) xok279)
set_option maxRecDepth 100000 in
theorem xok280 : xokA 280 = true := by decide +kernel
set_option maxRecDepth 100000 in
theorem xok281 : xokA 281 = true := by decide +kernel
set_option maxRecDepth 100000 in
theorem xok282 : xokA 282 = true := by decide +kernel
set_option maxRecDepth 100000 in
theorem xok283 : xokA 283 = true := by decide +kernel
set_option maxRecDepth 100000 in
theorem xok284 : xokA 284 = true := by decide +kernel
set_option maxRecDepth 100000 in
theorem xok285 : xokA 285 = true := by decide +kernel
set_option maxRecDepth 100000 in
theorem xok286 : xokA 286 = true := by decide +kernel
set_option maxRecDepth 100000 in
theorem xok287 : xokA 287 = true := by decide +kernel
set_option maxRecDepth 100000 in
theorem xok288 : xokA 288 = true := by decide +kernel
set_option maxRecDepth 100000 in
theorem xok289 : xokA 289 = true := by decide +kernel
set_option maxRecDepth 100000 in
theorem xok290 : xokA 290 = true := by decide +kernel
set_option maxRecDepth 100000 in
theorem xok291 : xokA 291 = true := by decide +kernel
set_option maxRecDepth 100000 in
theorem xok292 : xokA 292 = true := by decide +kernel
set_option maxRecDepth 100000 in
theorem xok293 : xokA 293 = true := by decide +kernel
set_option maxRecDepth 100000 in
theorem xok294 : xokA 294 = true := by decide +kernel
set_option maxRecDepth 100000 in
theorem xok295 : xokA 295 = true := by decide +kernel
set_option maxRecDepth 100000 in
theorem xok296 : xokA 296 = true := by decide +kernel
set_option maxRecDepth 100000 in
theorem xok297 : xokA 297 = true := by decide +kernel
set_option maxRecDepth 100000 in
theorem xok298 : xokA 298 = true := by decide +kernel
set_option maxRecDepth 100000 in
theorem xok299 : xokA 299 = true := by decide +kernel
set_option maxRecDepth 100000 in
theorem xok300 : xokA 300 = true := by decide +kernel
set_option maxRecDepth 100000 in
theorem xok301 : xokA 301 = true := by decide +kernel
set_option maxRecDepth 100000 in
theorem xok302 : xokA 302 = true := by decide +kernel
set_option maxRecDepth 100000 in
theorem xok303 : xokA 303 = true := by decide +kernel
theorem xokU304 : ∀ a, a < 304 → xokA a = true := (lt_s (lt_s (lt_s (lt_s (lt_s (lt_s (lt_s (lt_s (lt_s (lt_s (lt_s (lt_s (lt_s (lt_s (lt_s (lt_s (lt_s (lt_s (lt_s (lt_s (lt_s (lt_s (lt_s (lt_s xokU280 xok280) xok281) xok282) xok283) xok284) xok285) xok286) xok287) xok288) xok289) xok290) xok291) xok292) xok293) xok294) xok295) xok296) xok297) xok298) xok299) xok300) xok301) xok302) xok303)

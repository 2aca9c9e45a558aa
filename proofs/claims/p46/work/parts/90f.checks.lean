theorem xok178 : xokM 178 = true := by decide +kernel
set_option maxRecDepth 100000 in
theorem xokL0 : xokB 178 0 100 = true := by decide +kernel
set_option maxRecDepth 100000 in
theorem xokL1 : xokB 178 100 100 = true := by decide +kernel
set_option maxRecDepth 100000 in
theorem xokL2 : xokB 178 200 100 = true := by decide +kernel
set_option maxRecDepth 100000 in
theorem xokL3 : xokB 178 300 100 = true := by decide +kernel
set_option maxRecDepth 100000 in
theorem xokL4 : xokB 178 400 100 = true := by decide +kernel
theorem xokLQ : xokQ 178 := by
  refine ⟨xok178, fun pc x hx => ?_⟩
  have hlt : pc < 500 := Nat.lt_of_lt_of_le (xcod_lt hx) (by decide +kernel)
  rcases Nat.lt_or_ge pc 100 with h | h0
  · exact xokB_use xokL0 (by omega) (by omega) hx
  rcases Nat.lt_or_ge pc 200 with h | h1
  · exact xokB_use xokL1 (by omega) (by omega) hx
  rcases Nat.lt_or_ge pc 300 with h | h2
  · exact xokB_use xokL2 (by omega) (by omega) hx
  rcases Nat.lt_or_ge pc 400 with h | h3
  · exact xokB_use xokL3 (by omega) (by omega) hx
  rcases Nat.lt_or_ge pc 500 with h | h4
  · exact xokB_use xokL4 (by omega) (by omega) hx
  exact absurd hlt (by omega)
theorem xok_all : ∀ a, a < 179 → xokQ a := lt_s (fun a h => xokA_use (xokU178 a h)) xokLQ

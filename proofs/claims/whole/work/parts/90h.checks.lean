set_option maxRecDepth 100000 in
theorem xokL29 : xokB 304 2500 50 = true := by decide +kernel
set_option maxRecDepth 100000 in
theorem xokL30 : xokB 304 2550 50 = true := by decide +kernel
set_option maxRecDepth 100000 in
theorem xokL31 : xokB 304 2600 50 = true := by decide +kernel
set_option maxRecDepth 100000 in
theorem xokL32 : xokB 304 2650 50 = true := by decide +kernel
set_option maxRecDepth 100000 in
theorem xokL33 : xokB 304 2700 50 = true := by decide +kernel
set_option maxRecDepth 100000 in
theorem xokL34 : xokB 304 2750 50 = true := by decide +kernel
set_option maxRecDepth 100000 in
theorem xokL35 : xokB 304 2800 50 = true := by decide +kernel
theorem xokLQ : xokQ 304 := by
  refine ⟨xok304, fun pc x hx => ?_⟩
  have hlt : pc < 2850 := Nat.lt_of_lt_of_le (xcod_lt hx) (by decide +kernel)
  rcases Nat.lt_or_ge pc 200 with h | h0
  · exact xokB_use xokL0 (by omega) (by omega) hx
  rcases Nat.lt_or_ge pc 400 with h | h1
  · exact xokB_use xokL1 (by omega) (by omega) hx
  rcases Nat.lt_or_ge pc 600 with h | h2
  · exact xokB_use xokL2 (by omega) (by omega) hx
  rcases Nat.lt_or_ge pc 800 with h | h3
  · exact xokB_use xokL3 (by omega) (by omega) hx
  rcases Nat.lt_or_ge pc 1000 with h | h4
  · exact xokB_use xokL4 (by omega) (by omega) hx
  rcases Nat.lt_or_ge pc 1200 with h | h5
  · exact xokB_use xokL5 (by omega) (by omega) hx
  rcases Nat.lt_or_ge pc 1400 with h | h6
  · exact xokB_use xokL6 (by omega) (by omega) hx
  rcases Nat.lt_or_ge pc 1450 with h | h7
  · exact xokB_use xokL7 (by omega) (by omega) hx
  rcases Nat.lt_or_ge pc 1500 with h | h8
  · exact xokB_use xokL8 (by omega) (by omega) hx
  rcases Nat.lt_or_ge pc 1550 with h | h9
  · exact xokB_use xokL9 (by omega) (by omega) hx
  rcases Nat.lt_or_ge pc 1600 with h | h10
  · exact xokB_use xokL10 (by omega) (by omega) hx
  rcases Nat.lt_or_ge pc 1650 with h | h11
  · exact xokB_use xokL11 (by omega) (by omega) hx
  rcases Nat.lt_or_ge pc 1700 with h | h12
  · exact xokB_use xokL12 (by omega) (by omega) hx
  rcases Nat.lt_or_ge pc 1750 with h | h13
  · exact xokB_use xokL13 (by omega) (by omega) hx
  rcases Nat.lt_or_ge pc 1800 with h | h14
  · exact xokB_use xokL14 (by omega) (by omega) hx
  rcases Nat.lt_or_ge pc 1850 with h | h15
  · exact xokB_use xokL15 (by omega) (by omega) hx
  rcases Nat.lt_or_ge pc 1900 with h | h16
  · exact xokB_use xokL16 (by omega) (by omega) hx
  rcases Nat.lt_or_ge pc 1950 with h | h17
  · exact xokB_use xokL17 (by omega) (by omega) hx
  rcases Nat.lt_or_ge pc 2000 with h | h18
  · exact xokB_use xokL18 (by omega) (by omega) hx
  rcases Nat.lt_or_ge pc 2050 with h | h19
  · exact xokB_use xokL19 (by omega) (by omega) hx
  rcases Nat.lt_or_ge pc 2100 with h | h20
  · exact xokB_use xokL20 (by omega) (by omega) hx
  rcases Nat.lt_or_ge pc 2150 with h | h21
  · exact xokB_use xokL21 (by omega) (by omega) hx
  rcases Nat.lt_or_ge pc 2200 with h | h22
  · exact xokB_use xokL22 (by omega) (by omega) hx
  rcases Nat.lt_or_ge pc 2250 with h | h23
  · exact xokB_use xokL23 (by omega) (by omega) hx
  rcases Nat.lt_or_ge pc 2300 with h | h24
  · exact xokB_use xokL24 (by omega) (by omega) hx
  rcases Nat.lt_or_ge pc 2350 with h | h25
  · exact xokB_use xokL25 (by omega) (by omega) hx
  rcases Nat.lt_or_ge pc 2400 with h | h26
  · exact xokB_use xokL26 (by omega) (by omega) hx
  rcases Nat.lt_or_ge pc 2450 with h | h27
  · exact xokB_use xokL27 (by omega) (by omega) hx
  rcases Nat.lt_or_ge pc 2500 with h | h28
  · exact xokB_use xokL28 (by omega) (by omega) hx
  rcases Nat.lt_or_ge pc 2550 with h | h29
  · exact xokB_use xokL29 (by omega) (by omega) hx
  rcases Nat.lt_or_ge pc 2600 with h | h30
  · exact xokB_use xokL30 (by omega) (by omega) hx
  rcases Nat.lt_or_ge pc 2650 with h | h31
  · exact xokB_use xokL31 (by omega) (by omega) hx
  rcases Nat.lt_or_ge pc 2700 with h | h32
  · exact xokB_use xokL32 (by omega) (by omega) hx
  rcases Nat.lt_or_ge pc 2750 with h | h33
  · exact xokB_use xokL33 (by omega) (by omega) hx
  rcases Nat.lt_or_ge pc 2800 with h | h34
  · exact xokB_use xokL34 (by omega) (by omega) hx
  rcases Nat.lt_or_ge pc 2850 with h | h35
  · exact xokB_use xokL35 (by omega) (by omega) hx
  exact absurd hlt (by omega)
theorem xok_all : ∀ a, a < 305 → xokQ a := lt_s (fun a h => xokA_use (xokU304 a h)) xokLQ

set_option maxRecDepth 100000 in
theorem xokL13 : xokB 304 2600 200 = true := by decide +kernel
set_option maxRecDepth 100000 in
theorem xokL14 : xokB 304 2800 200 = true := by decide +kernel
theorem xokLQ : xokQ 304 := by
  refine ⟨xok304, fun pc x hx => ?_⟩
  have hlt : pc < 3000 := Nat.lt_of_lt_of_le (xcod_lt hx) (by decide +kernel)
  rcases Nat.lt_or_ge pc 200 with h | h0
  · exact xokB_use xokL0 (by omega) (by omega) hx
  rcases Nat.lt_or_ge pc 400 with h | h1
  · exact xokB_use xokL1 (by omega) (by omega) hx
  rcases Nat.lt_or_ge pc 600 with h | h2
  · exact xokB_use xokL2 (by omega) (by omega) hx
  rcases Nat.lt_or_ge pc 800 with h | h3
  · exact xokB_use xokL3 (by omega) (by omega) hx
  rcases Nat.lt_or_ge pc 1000 with h | h4
  · exact xokB_use xokL4 (by omega) (by omega) hx
  rcases Nat.lt_or_ge pc 1200 with h | h5
  · exact xokB_use xokL5 (by omega) (by omega) hx
  rcases Nat.lt_or_ge pc 1400 with h | h6
  · exact xokB_use xokL6 (by omega) (by omega) hx
  rcases Nat.lt_or_ge pc 1600 with h | h7
  · exact xokB_use xokL7 (by omega) (by omega) hx
  rcases Nat.lt_or_ge pc 1800 with h | h8
  · exact xokB_use xokL8 (by omega) (by omega) hx
  rcases Nat.lt_or_ge pc 2000 with h | h9
  · exact xokB_use xokL9 (by omega) (by omega) hx
  rcases Nat.lt_or_ge pc 2200 with h | h10
  · exact xokB_use xokL10 (by omega) (by omega) hx
  rcases Nat.lt_or_ge pc 2400 with h | h11
  · exact xokB_use xokL11 (by omega) (by omega) hx
  rcases Nat.lt_or_ge pc 2600 with h | h12
  · exact xokB_use xokL12 (by omega) (by omega) hx
  rcases Nat.lt_or_ge pc 2800 with h | h13
  · exact xokB_use xokL13 (by omega) (by omega) hx
  rcases Nat.lt_or_ge pc 3000 with h | h14
  · exact xokB_use xokL14 (by omega) (by omega) hx
  exact absurd hlt (by omega)
theorem xok_all : ∀ a, a < 305 → xokQ a := lt_s (fun a h => xokA_use (xokU304 a h)) xokLQ

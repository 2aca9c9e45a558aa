theorem xin_nI' {k m : Nat} (h : k < m) (hm : m < 2147483648) : xin (nI k) m = true ∧ (nI k).toNatClampNeg = k := by
  have e : (nI k).toNatClampNeg = k := nI_clamp (by omega)
  refine ⟨?_, e⟩
  unfold xin
  rw [e, decide_eq_false (nI_pos (by omega))]
  cases hb : Nat.ble m k with
  | false => rfl
  | true => exact absurd (Nat.le_of_ble_eq_true hb) (by omega)
section EVN
variable {S : Nat × (Nat → Int32)} {d i : Nat} {r : xR} {pc : Nat} {L : xL} {st : List Value} {H : List xE} {z : Bool × Nat × Nat}
theorem ev_iald_n {ln a b w h m k : Nat} {v : Value} {f : Nat → Int32} (hc : xcod i pc = some (.iaload, ln, a, b, w, v)) (hH : H[h]? = some (.inl (0, m, .inl f))) (hk : k < m) (hm : m < 2147483648) (hE : Ev S d i (pc + 1, L, .int (f k) :: st) (H, z) r) : Ev S d i (pc, L, .int (nI k) :: .ref h :: st) (H, z) r :=
  ev_iald hc hH (xin_nI' hk hm).1 (by rw [(xin_nI' hk hm).2]; exact hE)
theorem ev_bald_n {ln a b w h m k : Nat} {v : Value} {f : Nat → Int32} (hc : xcod i pc = some (.baload, ln, a, b, w, v)) (hH : H[h]? = some (.inl (2, m, .inl f))) (hk : k < m) (hm : m < 2147483648) (hE : Ev S d i (pc + 1, L, .int (f k) :: st) (H, z) r) : Ev S d i (pc, L, .int (nI k) :: .ref h :: st) (H, z) r :=
  ev_bald hc hH (xin_nI' hk hm).1 (by rw [(xin_nI' hk hm).2]; exact hE)
theorem ev_lald_n {ln a b w h m k : Nat} {v : Value} {f : Nat → Int64} (hc : xcod i pc = some (.laload, ln, a, b, w, v)) (hH : H[h]? = some (.inl (1, m, .inr (.inl f)))) (hk : k < m) (hm : m < 2147483648) (hE : Ev S d i (pc + 1, L, .long (f k) :: st) (H, z) r) : Ev S d i (pc, L, .int (nI k) :: .ref h :: st) (H, z) r :=
  ev_lald hc hH (xin_nI' hk hm).1 (by rw [(xin_nI' hk hm).2]; exact hE)
theorem ev_iast_n {ln a b w h m k : Nat} {v : Value} {f : Nat → Int32} {y : Int32} (hc : xcod i pc = some (.iastore, ln, a, b, w, v)) (hH : H[h]? = some (.inl (0, m, .inl f))) (hk : k < m) (hm : m < 2147483648) (hE : Ev S d i (pc + 1, L, st) (H.set h (.inl (0, m, .inl (upd f k y))), z) r) : Ev S d i (pc, L, .int y :: .int (nI k) :: .ref h :: st) (H, z) r :=
  ev_iast hc hH (xin_nI' hk hm).1 (by rw [(xin_nI' hk hm).2]; exact hE)
theorem ev_bast_n {ln a b w h m k : Nat} {v : Value} {f : Nat → Int32} {y : Int32} (hc : xcod i pc = some (.bastore, ln, a, b, w, v)) (hH : H[h]? = some (.inl (2, m, .inl f))) (hk : k < m) (hm : m < 2147483648) (hE : Ev S d i (pc + 1, L, st) (H.set h (.inl (2, m, .inl (upd f k (vp_nar .boolean y)))), z) r) : Ev S d i (pc, L, .int y :: .int (nI k) :: .ref h :: st) (H, z) r :=
  ev_bast hc hH (xin_nI' hk hm).1 (by rw [(xin_nI' hk hm).2]; exact hE)
theorem ev_last_n {ln a b w h m k : Nat} {v : Value} {f : Nat → Int64} {y : Int64} (hc : xcod i pc = some (.lastore, ln, a, b, w, v)) (hH : H[h]? = some (.inl (1, m, .inr (.inl f)))) (hk : k < m) (hm : m < 2147483648) (hE : Ev S d i (pc + 1, L, st) (H.set h (.inl (1, m, .inr (.inl (vp_updL f k y)))), z) r) : Ev S d i (pc, L, .long y :: .int (nI k) :: .ref h :: st) (H, z) r :=
  ev_last hc hH (xin_nI' hk hm).1 (by rw [(xin_nI' hk hm).2]; exact hE)
end EVN

/-! The call forge. -/
theorem row76 {x v : Nat} {a2 : Nat → Int32} (hx : x + 4 ≤ 64) (hv : v < 4294967296) : ∃ r : Int32 × (Nat → Int32), q_X11_forge_L76 (nI x) (nI v) 10000 0 a2 = some r ∧ ∀ k, r.2 k = if x ≤ k ∧ k < x + 4 then nI (bw v (k - x)) else a2 k := by
  obtain ⟨r, hr, g⟩ := loop_inv (F := fun f (z : Int32 × (Nat → Int32)) => q_X11_forge_L76 (nI x) (nI v) f z.1 z.2)
    (fun j z => z.1 = nI j ∧ ∀ k, z.2 k = if x ≤ k ∧ k < x + j then nI (bw v (k - x)) else a2 k) (fun r => ∀ k, r.2 k = if x ≤ k ∧ k < x + 4 then nI (bw v (k - x)) else a2 k) 4
    (fun f z h => by
      obtain ⟨z1, z2⟩ := z
      obtain ⟨rfl, h⟩ := h
      exact ⟨_, by show q_X11_forge_L76 _ _ (f + 1) (nI 4) z2 = some (nI 4, z2); rw [q_X11_forge_L76, if_pos (by decide)], h⟩)
    (fun f j z hj h => by
      obtain ⟨z1, z2⟩ := z
      obtain ⟨rfl, h⟩ := h
      have h : ∀ k, z2 k = if x ≤ k ∧ k < x + j then nI (bw v (k - x)) else a2 k := h
      refine Or.inr ⟨(nI (j + 1), upd z2 (x + j) (nI (bw v j))), ?_, rfl, ?_⟩
      · show q_X11_forge_L76 _ _ (f + 1) (nI j) z2 = q_X11_forge_L76 _ _ f (nI (j + 1)) (upd z2 (x + j) (nI (bw v j)))
        rw [q_X11_forge_L76, if_neg (show ¬ (4 : Int32) ≤ nI j from nI_ge (b := 4) hj (by decide)), nI_add, bwC hv hj, chI (by omega) (by decide), nI_1]
      · intro k
        show upd z2 (x + j) (nI (bw v j)) k = _
        by_cases e : k = x + j
        · subst e; rw [upd_eq, if_pos (by omega), Nat.add_sub_cancel_left]
        · rw [upd_ne e, h]
          by_cases c : x ≤ k ∧ k < x + j
          · rw [if_pos c, if_pos (by omega)]
          · rw [if_neg c, if_neg (by omega)])
    10000 0 (nI 0, a2) ⟨rfl, fun k => (if_neg (by omega)).symm⟩ (Nat.zero_le _) (by omega)
  exact ⟨r, hr, g⟩
theorem row204 {x v : Nat} {a49 : Nat → Int32} (hx : x + 4 ≤ 64) (hv : v < 4294967296) : ∃ r : Int32 × (Nat → Int32), q_X12_forge_L204 (nI x) (nI v) 10000 0 a49 = some r ∧ ∀ k, r.2 k = if x ≤ k ∧ k < x + 4 then nI (bw v (k - x)) else a49 k := by
  obtain ⟨r, hr, g⟩ := loop_inv (F := fun f (z : Int32 × (Nat → Int32)) => q_X12_forge_L204 (nI x) (nI v) f z.1 z.2)
    (fun j z => z.1 = nI j ∧ ∀ k, z.2 k = if x ≤ k ∧ k < x + j then nI (bw v (k - x)) else a49 k) (fun r => ∀ k, r.2 k = if x ≤ k ∧ k < x + 4 then nI (bw v (k - x)) else a49 k) 4
    (fun f z h => by
      obtain ⟨z1, z2⟩ := z
      obtain ⟨rfl, h⟩ := h
      exact ⟨_, by show q_X12_forge_L204 _ _ (f + 1) (nI 4) z2 = some (nI 4, z2); rw [q_X12_forge_L204, if_pos (by decide)], h⟩)
    (fun f j z hj h => by
      obtain ⟨z1, z2⟩ := z
      obtain ⟨rfl, h⟩ := h
      have h : ∀ k, z2 k = if x ≤ k ∧ k < x + j then nI (bw v (k - x)) else a49 k := h
      refine Or.inr ⟨(nI (j + 1), upd z2 (x + j) (nI (bw v j))), ?_, rfl, ?_⟩
      · show q_X12_forge_L204 _ _ (f + 1) (nI j) z2 = q_X12_forge_L204 _ _ f (nI (j + 1)) (upd z2 (x + j) (nI (bw v j)))
        rw [q_X12_forge_L204, if_neg (show ¬ (4 : Int32) ≤ nI j from nI_ge (b := 4) hj (by decide)), nI_add, if_pos (xinI (by omega) (by decide)), nI_clamp (by omega), bwM hv hj, nI_1]
      · intro k
        show upd z2 (x + j) (nI (bw v j)) k = _
        by_cases e : k = x + j
        · subst e; rw [upd_eq, if_pos (by omega), Nat.add_sub_cancel_left]
        · rw [upd_ne e, h]
          by_cases c : x ≤ k ∧ k < x + j
          · rw [if_pos c, if_pos (by omega)]
          · rw [if_neg c, if_neg (by omega)])
    10000 0 (nI 0, a49) ⟨rfl, fun k => (if_neg (by omega)).symm⟩ (Nat.zero_le _) (by omega)
  exact ⟨r, hr, g⟩
theorem lN_toInt' {n : Nat} (h : n < 9223372036854775808) : (lN n).toInt = (n : Int) := lg_ofNat_toInt h
/-- a long that is a sum, or not -/
theorem clsW (q : Int64) : (∃ t, t < 4294967296 ∧ q = lN t) ∨ (q.toInt < 0 ∨ 4294967295 < q.toInt) := by
  by_cases h : q.toInt < 0 ∨ 4294967295 < q.toInt
  · exact Or.inr h
  · refine Or.inl ⟨q.toInt.toNat, by omega, ?_⟩
    apply Int64.toInt_inj.mp
    rw [lN_toInt' (by omega)]
    omega
theorem sub4 {n : Nat} (hn : n ≤ 64) : (nI n - 4).toInt = (n : Int) - 4 := by
  rw [Int32.toInt_sub, nI_toInt (by omega), show (4 : Int32).toInt = 4 from rfl, Int.bmod_eq_of_le (by omega) (by omega)]
theorem M_13 : MS_13 := by
  intro S l4 c1_1 a2 c3_1 c3_2 c4_0 a6 a5 a66 c48_17 c48_18 c48_20 a49 a50 a63 a64 a52 c8_0 c8_1 c8_2 c8_3 c8_4 c8_5 c48_24 c48_25 c48_26 c48_27 c48_28 c7_0 c7_1 c7_2 c7_3 c7_4 c7_5 a10 a11 a53 c17_1 a18 c48_21 a57 c23_4 c24_0 a25 a26 c48_22 a58 a22 x1 x2 x3 x4 x5 hB hP hK h7 hS hD hW hC
  have hB0 := hB
  have hP0 := hP
  obtain ⟨n, B, hn, rfl, rfl, hB⟩ := hB
  unfold q_case13
  generalize S.2 (l4 + (1 : Int32)).toNatClampNeg = p1
  generalize S.2 (l4 + (2 : Int32)).toNatClampNeg = p2
  generalize S.2 (l4 + (3 : Int32)).toNatClampNeg = p3
  generalize (p2.toInt64 <<< ((32 : Int32).toInt64 &&& (63 : Int64)) ||| p3.toInt64 &&& (4294967295 : Int64)) = q
  have hBb : ∀ k, k < n → B k < 256 := fun k hk => (hB k hk).1
  rcases cls p1 (n := n - 3) (by omega) with ⟨x, hx, rfl⟩ | hF
  · have hx4 : x + 4 ≤ n := by omega
    have c1 : ¬ nI x < 0 := nI_pos (by omega)
    have c2 : nI x ≤ nI n - 4 := by rw [leI, sub4 hn, nI_toInt (by omega)]; omega
    have g1 : t_X12_in (nI x).toInt64 0 (nI n - 4).toInt64 = 1 := in_T (by rw [tl, nI_toInt (by omega)]; show (0 : Int) ≤ _; omega) (by rw [tl, tl, nI_toInt (by omega), sub4 hn]; omega)
    rcases clsW q with ⟨t, ht, rfl⟩ | hq
    · have d1 : ¬ lg_cmp (lN t) 0 < 0 := lg_nn (by omega)
      have d2 : lg_cmp (lN t) 4294967295 ≤ 0 := by
        rw [lg_cmp_le, Int64.le_iff_toInt_le, lN_toInt' (by omega)]
        show _ ≤ (4294967295 : Int)
        omega
      have g2 : t_X12_in (lN t) 0 4294967295 = 1 := in_T (by rw [lN_toInt' (by omega)]; show (0 : Int) ≤ _; omega) (by rw [lN_toInt' (by omega)]; show _ ≤ (4294967295 : Int); omega)
      obtain ⟨v, v1, v2, v3⟩ := forgeC (a2 := a2) hx4 hn ht (fun k hk => ⟨hBb k hk, (hB k hk).2.1⟩)
      obtain ⟨r, r1, r2⟩ := row76 (a2 := a2) (show x + 4 ≤ 64 by omega) v1
      obtain ⟨px, py, k1', k2', hP'⟩ := keepP hn hB hP
      have e1 : q_X11_forge (nI x) (lN t) (nI n) a2 c3_1 c3_2 c4_0 a6 a5 = some (.inr (nI v), (r.2, px.1, px.2.1, px.2.2.1, px.2.2.2)) := by
        unfold q_X11_forge
        rw [if_neg c1, show t_X5_size (nI n) = nI n from rfl, if_pos c2, if_neg d1, if_pos d2, v2, Option.bind_some, k1', Option.bind_some, r1, Option.bind_some]
      obtain ⟨h1, l1, l2, -⟩ := layM (a49 := a49) (a50 := a50) (Nat.zero_le n) hn
      rw [Nat.sub_zero] at l1 l2
      have l1 : q_X12_lay 0 (nI n) a49 a50 = _ := l1
      obtain ⟨h2, w1, w2⟩ := layW (x := x) (v := 0) (a50 := h1) (by omega) (by decide)
      have w1 : q_X12_layWord (nI x) 0 h1 = _ := w1
      have hg : ∀ k, k < n → h2 k = nI (wB B x 0 k) := by
        intro k hk
        rw [w2]
        unfold wB
        by_cases c : x ≤ k ∧ k < x + 4
        · rw [if_pos c, if_pos c]
        · rw [if_neg c, if_neg c, l2 k hk, Nat.zero_add]
          exact (hB k hk).2.2
      have s0 := sumW hn hBb hg
      obtain ⟨y, y1, y2⟩ := zero63 (a63 := a63) (a64 := a64)
      obtain ⟨u, u1, bs, ps, u2, u3, u4, u5⟩ := basis95 hx4 hn hBb hg y2
      have hT : t ^^^ sW B x n 0 < 2 ^ 32 := Nat.xor_lt_two_pow (n := 32) ht (sW_lt B x n 0)
      obtain ⟨z1, m, z3, m1, m2, m3⟩ := fin145 u2 u3 u4 u5 32 10000 (t ^^^ sW B x n 0) 0 (Nat.le_refl 32) hT (by decide) (by omega)
      have m2 : q_X12_forge_L145 u.2.2.1 u.2.2.2 10000 (lN (t ^^^ sW B x n 0)) 0 31 = _ := m2
      rw [ph_0, Nat.zero_xor] at m3
      have m4 : sW B x n m = t := by
        rw [sW_ph hBb hx4 m, m3, Nat.xor_comm, Nat.xor_assoc, Nat.xor_self, Nat.xor_zero]
      have ev : m = v := sW_inj hBb hx4 m1 v1 (m4.trans v3.symm)
      rw [ev] at m2
      obtain ⟨s, s1, s2⟩ := row204 (a49 := a49) (show x + 4 ≤ 64 by omega) v1
      have e2 : q_X12_forge (nI x) (lN t) (nI n) c48_18 c48_20 a49 a50 a63 a64 a52 = some (nI v, nI n, py.1, 0, s.2, u.2.1, u.2.2.1, u.2.2.2, py.2) := by
        unfold q_X12_forge
        rw [g1, ite10, g2, ite10, l1, Option.bind_some, w1, Option.bind_some, s0, Option.bind_some, y1, Option.bind_some, u1, Option.bind_some, lN_xor, m2, Option.bind_some, k2', Option.bind_some]
        show ((q_X12_forge_L204 (nI x) (lN v).toInt32 10000 0 a49).bind _) = _
        rw [lN_i, s1, Option.bind_some]
        rfl
      simp only [x1, x2, x3, if_true, q_L_forge, e1, xbnd, Option.bind_some, e2, t_X12_thrown, ite00, c0, updL_eq, lgs]
      refine ⟨_, rfl, ⟨n, wB B x v, hn, rfl, rfl, fun k hk => ⟨wB_lt hBb k hk, ?_, ?_⟩⟩, hP'⟩
      · show r.2 k = _
        rw [r2]
        unfold wB
        by_cases c : x ≤ k ∧ k < x + 4
        · rw [if_pos c, if_pos c]
        · rw [if_neg c, if_neg c]; exact (hB k hk).2.1
      · show s.2 k = _
        rw [s2]
        unfold wB
        by_cases c : x ≤ k ∧ k < x + 4
        · rw [if_pos c, if_pos c]
        · rw [if_neg c, if_neg c]; exact (hB k hk).2.2
    · have g2 : t_X12_in q 0 4294967295 = 0 := in_F (by show _ < (0 : Int) ∨ (4294967295 : Int) < _; exact hq)
      have e1 : q_X11_forge (nI x) q (nI n) a2 c3_1 c3_2 c4_0 a6 a5 = some (.inl 0, (a2, c3_1, c3_2, a6, a5)) := by
        unfold q_X11_forge
        rw [if_neg c1, show t_X5_size (nI n) = nI n from rfl, if_pos c2]
        by_cases d1 : lg_cmp q 0 < 0
        · rw [if_pos d1]
        · rw [if_neg d1, if_neg]
          rw [lg_cmp_le, Int64.le_iff_toInt_le]
          rw [lg_cmp_lt, Int64.lt_iff_toInt_lt] at d1
          have d1 : ¬ q.toInt < 0 := d1
          show ¬ _ ≤ (4294967295 : Int)
          omega
      have e2 : q_X12_forge (nI x) q (nI n) c48_18 c48_20 a49 a50 a63 a64 a52 = some (0, c48_18, c48_20, 2, a49, a50, a63, a64, a52) := by
        unfold q_X12_forge
        rw [g1, ite10, g2, ite00]
        rfl
      simp only [x1, x2, x3, if_true, q_L_forge, e1, xbnd, Option.bind_some, e2, t_X12_thrown]
      exact ⟨_, rfl, hB0, hP0⟩
  · have g1 : t_X12_in p1.toInt64 0 (nI n - 4).toInt64 = 0 := in_F (by rw [tl, tl, sub4 hn]; show _ < (0 : Int) ∨ _; omega)
    have e1 : q_X11_forge p1 q (nI n) a2 c3_1 c3_2 c4_0 a6 a5 = some (.inl 2, (a2, c3_1, c3_2, a6, a5)) := by
      unfold q_X11_forge
      by_cases c1 : p1 < 0
      · rw [if_pos c1]
      · rw [if_neg c1, show t_X5_size (nI n) = nI n from rfl, if_neg]
        rw [ltI, i0] at c1
        rw [leI, sub4 hn]
        omega
    have e2 : q_X12_forge p1 q (nI n) c48_18 c48_20 a49 a50 a63 a64 a52 = some (0, c48_18, c48_20, 1, a49, a50, a63, a64, a52) := by
      unfold q_X12_forge
      rw [g1, ite00]
      rfl
    simp only [x1, x2, x3, if_true, q_L_forge, e1, xbnd, Option.bind_some, e2, t_X12_thrown]
    exact ⟨_, rfl, hB0, hP0⟩

/-! The calls ofKind, bits, shortest. -/
theorem numK {w p : Nat} (h : w ≤ 32) (hp : p < 2 ^ w) : t_X1_number (nI w) (nI p) = pL (2 ^ w + p) ∧ (0 : Int64) = pH (2 ^ w + p) ∧ 2 ^ w + p < 2 ^ 33 := by
  have hw := pow_le h
  have h33 : 2 ^ w + p < 2 ^ 33 := by omega
  refine ⟨?_, ?_, h33⟩
  · unfold t_X1_number pL
    rw [nI_mask (by omega), show (1 : Int64) = lN 1 from rfl, lN_shl 1 (by omega), Nat.one_mul, lN_or, Nat.mod_eq_of_lt (by omega)]
    congr 1
    have := Nat.two_pow_add_eq_or_of_lt hp 1
    rw [Nat.mul_one] at this
    exact this.symm
  · unfold pH
    rw [Nat.div_eq_of_lt (by omega)]
    rfl
theorem bitK {w p k : Nat} (hp : p < 2 ^ w) : (2 ^ w + p) / 2 ^ k % 2 = if k = w then 1 else if w ≤ k then 0 else p / 2 ^ k % 2 := by
  rw [tb_div, tb_div]
  have := Nat.testBit_two_pow_mul_add 1 hp k
  rw [Nat.mul_one] at this
  rw [this]
  by_cases c : k < w
  · rw [if_pos c, if_neg (by omega), if_neg (by omega)]
  · rw [if_neg c]
    by_cases e : k = w
    · subst e; rw [if_pos rfl, Nat.sub_self]; rfl
    · rw [if_neg e, if_pos (by omega), Nat.testBit_lt_two_pow (Nat.one_lt_two_pow (by omega))]
      rfl
theorem M_15 : MS_15 := by
  intro S l4 a10 a11 c8_0 c8_1 c14_0 c14_1 a66 c48_24 c48_26 a53 c1_1 a2 c48_17 a49 c3_1 c3_2 c4_0 a5 a6 c48_20 a52 c8_2 c8_3 c8_4 c8_5 c48_25 c48_27 c48_28 c7_0 c7_1 c7_2 c7_3 c7_4 c7_5 c17_1 a18 c48_21 a57 c23_4 c24_0 a25 a26 c48_22 a58 a22 x1 x2 x3 x4 x5 hB hP hK h7 hS hD hW hC
  obtain ⟨w, p, s0, e0, m, h1, h, hp, -, -, -, -, rfl, rfl, -, -, -, -, rfl, -, rfl, -, -⟩ := hK
  unfold q_case15
  generalize S.2 (l4 + (1 : Int32)).toNatClampNeg = p1
  have hw := pow_le h
  obtain ⟨n1, n2, n3⟩ := numK h hp
  rcases cls p1 (n := 8) (by omega) with ⟨s, hs, rfl⟩ | hF
  · have e3 := putS (a10 := a10) (a11 := a11) hs (show 2 ^ w + p < 2 ^ 96 by omega)
    obtain ⟨r, r1, r2, r3⟩ := layT (F := q_X12_ofKind_L15 (nI s) (nI w) (lN p)) (s := s) (a53 := a53) (v := fun k => nI ((2 ^ w + p) / 2 ^ k % 2))
      (fun f a => by rw [q_X12_ofKind_L15, if_pos (show (96 : Int32) ≤ nI 96 by decide)])
      (fun f k v hk => by
        have e : (if ¬ nI k = nI w then (if nI w ≤ nI k then (0 : Int32) else (((xul (lN p) (nI k)) &&& 1).toInt32)) else 1) = nI ((2 ^ w + p) / 2 ^ k % 2) := by
          rw [bitK hp]
          by_cases c1 : k = w
          · subst c1
            rw [if_neg (show ¬ ¬ nI k = nI k from fun h => h rfl), if_pos rfl]
            rfl
          · rw [if_pos (ne_of_nI c1 (by omega) (by omega)), if_neg c1]
            by_cases c2 : w ≤ k
            · rw [if_pos (nI_le c2 (by omega)), if_pos c2]; rfl
            · rw [if_neg (nI_ge (by omega) (by omega)), if_neg c2, lN_xul (by omega) (by omega), show (1 : Int64) = lN 1 from rfl, lN_and, and1, lN_i]
        rw [q_X12_ofKind_L15, if_neg (show ¬ (96 : Int32) ≤ nI k from nI_ge (b := 96) hk (by decide)), k96, nI_mul, nI_add, if_pos (xinI (by omega) (by omega)), nI_clamp (by omega), e, nI_1])
    have r1' : q_X12_ofKind_L15 (nI s) (nI w) (lN p) 10000 0 a53 = some r := r1
    have ed : dgI (2 ^ w + p) = nI w := log_of (Nat.le_add_right _ _) (by rw [Nat.pow_succ]; omega)
    rw [ed] at e3
    have e5 : q_X11_ofKind (nI s) a10 a11 (nI w) (nI p) c14_0 c14_1 = some (.inr (nI w), (vp_updL a10 s (pL (2 ^ w + p)), vp_updL a11 s (pH (2 ^ w + p)), pL (2 ^ w + p), pH (2 ^ w + p))) := by
      unfold q_X11_ofKind t_X4_become
      rw [rsT hs, n1, n2]
      show Option.bind (q_X11_putOnShelf (nI s) a10 a11 (pL _) (pH _)) _ = _
      rw [e3]
      rfl
    simp only [x1, if_true, q_L_ofKind, e5, xbnd, Option.bind_some, q_X12_ofKind, msT hs, ite10, r1', t_X12_tells, t_X12_thrown, ite00, c0, updL_eq, lgs]
    exact ⟨_, rfl, putI hs (by omega) hS r2 r3⟩
  · simp only [x1, if_true, q_L_ofKind, q_X11_ofKind, rsF hF, xbnd, Option.bind_some, q_X12_ofKind, msF hF, ite00, ite10, t_X12_fails, t_X12_thrown]
    exact ⟨_, rfl, hS⟩
theorem nI_m32 (a : Nat) : nI (a % 2 ^ 32) = nI a := nI_of_bv (by
  rw [nI_bv]
  apply BitVec.eq_of_toNat_eq
  rw [BitVec.toNat_ofNat, BitVec.toNat_ofNat, Nat.mod_mod])
theorem low_succ (Q i : Nat) : Q % 2 ^ i ||| (Q / 2 ^ i % 2) * 2 ^ i = Q % 2 ^ (i + 1) := by
  rw [or_add (Nat.mod_lt _ (Nat.two_pow_pos i)), Nat.mod_pow_succ, Nat.add_comm]
theorem bitsM {s t P : Nat} {a53 : Nat → Int32} (hs : s < 8) (ht : t < 3) (ha : ∀ k, k < 96 → a53 (96 * s + k) = nI (P / 2 ^ k % 2)) : ∃ r : Int32 × Int32, q_X12_bits_L36 (nI s) (nI t) a53 10000 0 0 = some r ∧ r.1 = nI (P / 2 ^ (32 * t)) := by
  obtain ⟨r, hr, g⟩ := loop_inv (F := fun k (x : Int32 × Int32) => q_X12_bits_L36 (nI s) (nI t) a53 k x.1 x.2)
    (fun i x => x.1 = nI (P / 2 ^ (32 * t) % 2 ^ i) ∧ x.2 = nI i) (fun r => r.1 = nI (P / 2 ^ (32 * t))) 32
    (fun f x h => by
      obtain ⟨c, l⟩ := x
      obtain ⟨e1, e2⟩ := h
      have w1 : c = nI (P / 2 ^ (32 * t) % 2 ^ 32) := e1
      have e2 : l = nI 32 := e2
      subst e2
      refine ⟨_, by show q_X12_bits_L36 _ _ _ (f + 1) c _ = _; rw [q_X12_bits_L36, if_pos (show (32 : Int32) ≤ nI 32 by decide)], ?_⟩
      show c = _
      rw [w1, nI_m32])
    (fun f i x hi h => by
      obtain ⟨c, l⟩ := x
      obtain ⟨e1, e2⟩ := h
      have e1 : c = nI (P / 2 ^ (32 * t) % 2 ^ i) := e1
      have e2 : l = nI i := e2
      subst e1; subst e2
      refine Or.inr ⟨(nI (P / 2 ^ (32 * t) % 2 ^ (i + 1)), nI (i + 1)), ?_, rfl, rfl⟩
      show q_X12_bits_L36 _ _ _ (f + 1) (nI _) (nI i) = q_X12_bits_L36 _ _ _ f (nI _) (nI _)
      rw [q_X12_bits_L36, if_neg (show ¬ (32 : Int32) ≤ nI i from nI_ge (b := 32) hi (by decide)), k96, nI_mul, show (32 : Int32) * nI t = nI (32 * t) from nI_mul 32 t, nI_add, nI_add, if_pos (xinI (by omega) (by omega)), nI_clamp (by omega), Nat.add_assoc (96 * s), ha (32 * t + i) (by omega), nI_shl _ hi, nI_or, nI_1, Nat.pow_add, ← Nat.div_div_eq_div_mul, low_succ])
    10000 0 (nI 0, nI 0) ⟨by rw [Nat.pow_zero, Nat.mod_one], rfl⟩ (Nat.zero_le _) (by omega)
  exact ⟨r, hr, g⟩
theorem partC {t P : Nat} (hP : P < 2 ^ 96) (ht : t < 3) : t_X4_part (nI t) (pL P) (pH P) = nI (P / 2 ^ (32 * t)) := by
  have m64 : ∀ k : Nat, nI (P % 2 ^ 64 / 2 ^ (32 * k)) = nI (P / 2 ^ (32 * k)) ∨ 1 < k := by
    intro k
    by_cases c : 1 < k
    · exact Or.inr c
    · left
      have hk : k = 0 ∨ k = 1 := by omega
      rw [← nI_m32 (P % 2 ^ 64 / 2 ^ (32 * k)), ← nI_m32 (P / 2 ^ (32 * k))]
      congr 1
      rcases hk with rfl | rfl
      · (simp; try omega)
      · (simp; try omega)
  unfold t_X4_part pL pH
  have ht3 : t = 0 ∨ t = 1 ∨ t = 2 := by omega
  rcases ht3 with rfl | rfl | rfl
  · rw [if_neg (show ¬ ¬ nI 0 = 0 from fun h => h rfl), lN_i]
    have := m64 0
    simp at this
    simp
    exact this
  · rw [if_pos (show ¬ nI 1 = 0 by decide), if_neg (show ¬ ¬ nI 1 = 1 from fun h => h rfl), show (32 : Int32) = nI 32 from rfl, lN_xul (by omega) (by omega), lN_i]
    rcases m64 1 with h | h
    · exact h
    · omega
  · rw [if_pos (show ¬ nI 2 = 0 by decide), if_pos (show ¬ nI 2 = 1 by decide), lN_i]
theorem M_16 : MS_16 := by
  intro S l4 a10 a11 c12_0 c12_1 a66 a53 c1_1 a2 c48_17 a49 c3_1 c3_2 c4_0 a5 a6 c48_20 a52 c8_0 c8_1 c8_2 c8_3 c8_4 c8_5 c48_24 c48_25 c48_26 c48_27 c48_28 c7_0 c7_1 c7_2 c7_3 c7_4 c7_5 c17_1 a18 c48_21 a57 c23_4 c24_0 a25 a26 c48_22 a58 a22 x1 x2 x3 x4 x5 hB hP hK h7 hS hD hW hC
  unfold q_case16
  generalize S.2 (l4 + (1 : Int32)).toNatClampNeg = p1
  generalize S.2 (l4 + (2 : Int32)).toNatClampNeg = p2
  have i02T : ∀ t, t < 3 → t_X12_in (nI t).toInt64 0 2 = 1 := fun t ht => in_T (by rw [tl, nI_toInt (by omega)]; show (0 : Int) ≤ _; omega) (by rw [tl, nI_toInt (by omega)]; show _ ≤ (2 : Int); omega)
  rcases cls p1 (n := 8) (by omega) with ⟨s, hs, rfl⟩ | hF
  · obtain ⟨P, hP, q1, q2, q3⟩ := hS s hs
    rcases cls p2 (n := 3) (by omega) with ⟨t, ht, rfl⟩ | hF2
    · obtain ⟨r, r1, r2⟩ := bitsM hs ht q3
      have e : q_X11_bits (nI s) (nI t) a10 a11 c12_0 c12_1 = some (.inr (nI (P / 2 ^ (32 * t))), (a10 s, a11 s)) := by
        unfold q_X11_bits
        rw [rsT hs]
        show (if nI t < 0 then _ else if nI t ≤ 2 then _ else _) = _
        rw [if_neg (nI_pos (by omega)), if_pos (show nI t ≤ 2 from nI_le (b := 2) (by omega) (by decide)), takeS hs, Option.bind_some, q1, q2]
        show some (Sum.inr (t_X4_part (nI t) (pL P) (pH P)), _) = _
        rw [partC hP ht]
      simp only [x1, x2, if_true, q_L_bits, e, xbnd, Option.bind_some, q_X12_bits, msT hs, i02T t ht, ite10, r1, r2, t_X12_tells, t_X12_thrown, ite00, c0, updL_eq, lgs]
      exact ⟨_, rfl⟩
    · have i2 : t_X12_in p2.toInt64 0 2 = 0 := in_F (by rw [tl]; show _ < (0 : Int) ∨ (2 : Int) < _; omega)
      have e : q_X11_bits (nI s) p2 a10 a11 c12_0 c12_1 = some (.inl 0, (c12_0, c12_1)) := by
        unfold q_X11_bits
        rw [rsT hs]
        show (if p2 < 0 then _ else if p2 ≤ 2 then _ else _) = _
        by_cases c : p2 < 0
        · rw [if_pos c]
        · rw [if_neg c]
          rw [ltI, i0] at c
          rw [if_neg (by rw [leI, show (2 : Int32).toInt = 2 from rfl]; omega)]
      simp only [x1, x2, if_true, q_L_bits, e, xbnd, Option.bind_some, q_X12_bits, msT hs, i2, ite10, ite00, t_X12_fails, t_X12_thrown]
      exact ⟨_, rfl⟩
  · simp only [x1, x2, if_true, q_L_bits, q_X11_bits, rsF hF, xbnd, Option.bind_some, q_X12_bits, msF hF, ite10, ite00, t_X12_fails, t_X12_thrown]
    exact ⟨_, rfl⟩
theorem sU_log {R : Nat → Nat} {f n v : Nat} (hn : 1 ≤ n) (h : sU R f n = some v) : 2 ^ n ≤ v ∧ v < 2 ^ (n + 1) := by
  have key : ∀ x, x < 2 ^ n → 2 ^ n ≤ 2 ^ n ||| x ||| 1 ∧ 2 ^ n ||| x ||| 1 < 2 ^ (n + 1) := by
    intro x hx
    have a1 : 2 ^ n < 2 ^ (n + 1) := Nat.pow_lt_pow_right (by decide) (by omega)
    have a2 : 2 ^ n ||| x < 2 ^ (n + 1) := Nat.or_lt_two_pow a1 (by omega)
    exact ⟨Nat.le_trans Nat.left_le_or Nat.left_le_or, Nat.or_lt_two_pow a2 (Nat.one_lt_two_pow (by omega))⟩
  unfold sU at h
  split at h
  · split at h
    · cases h; exact key 0 (Nat.two_pow_pos n)
    · cases h
  · split at h
    · split at h
      · cases h
      · rename_i j hj
        cases h
        have := s1_lt hj
        exact key _ (Nat.pow_lt_pow_right (by decide) (by omega))
    · split at h
      · cases h
      · rename_i j hj
        split at h
        · cases h
        · rename_i i hi
          cases h
          have h3 := fo_lt _ _ _ hj
          have h4 := s1_lt hi
          exact key _ (Nat.or_lt_two_pow (Nat.pow_lt_pow_right (by decide) (by omega)) (Nat.pow_lt_pow_right (by decide) (by omega)))
theorem M_23 : MS_23 := by
  intro S l4 a16 c8_0 c8_1 c14_0 c14_1 a66 c48_24 c48_26 a62 c1_1 a2 c48_17 a49 c3_1 c3_2 c4_0 a5 a6 c48_20 a52 c8_2 c8_3 c8_4 c8_5 c48_25 c48_27 c48_28 c7_0 c7_1 c7_2 c7_3 c7_4 c7_5 a10 a11 a53 c17_1 a18 c48_21 a57 c23_4 c24_0 a25 a26 c48_22 a58 a22 x1 x2 x3 x4 x5 hB hP hK h7 hS hD hW hC
  obtain ⟨w, p, s, e, m, h1, h, hp, -, -, -, -, rfl, rfl, -, -, -, -, rfl, -, rfl, -, -⟩ := hK
  unfold q_case23
  generalize S.2 (l4 + (1 : Int32)).toNatClampNeg = p1
  rcases cls2 p1 (a := 2) (b := 4) (by omega) with ⟨f, h2, h4, rfl⟩ | h2
  · obtain ⟨g, g1⟩ := sokT (a16 := a16) h2 h4 h1 h hp
    obtain ⟨u, u1, u2⟩ := powersM (a62 := a62) h1 h hp
    have e1 := lastM (f := f) (b := 48) (zR32 h1 h hp) u2 (Nat.le_refl _) (by omega)
    have e1 : q_X12_lastOf (nI f) 48 u = _ := e1
    cases hs : sL (zR w p) f 48 with
    | none =>
      rw [hs] at g1 e1
      simp only [x1, if_true, q_L_shortest, q_X11_shortest, g1, xbnd, lgs, ite00, ite0e, Option.bind_some, q_X12_shortest, i24T h2 h4, ite10, u1, e1, if_neg (show ¬ ¬ (-1 : Int32) = -1 from fun h => h rfl), if_neg (show ¬ ¬ (0 : Int32) = 0 from fun h => h rfl), t_X12_tells, t_X12_thrown, c0, updL_eq]
      exact ⟨_, rfl⟩
    | some n =>
      rw [hs] at g1 e1
      obtain ⟨hn, hn1, hn2⟩ := fo_lt _ _ _ hs
      obtain ⟨v, hv⟩ := Option.isSome_iff_exists.mp hn2
      have g1 : q_X11_slipOfKind (nI f) a16 (nI w) (nI p) = some (.inr (match sU (zR w p) f n with | none => 0 | some v => lN v), g) := g1
      rw [hv] at g1
      have hv2 := sU_lt (by omega) hv
      have hv3 := sU_log hn1 hv
      have c1 : ¬ nI n = -1 := fun h => by
        have := (nI_inj (a := n) (b := 4294967295) (by omega) (by decide)).mp h
        omega
      have e5 : q_X4_degree (t_X4_become (lN v) 0).1 (t_X4_become (lN v) 0).2 = some (nI n) := by
        have d := degC (P := v) (by omega)
        have a1 : pL v = lN v := by unfold pL; rw [Nat.mod_eq_of_lt (by omega)]
        have a2 : pH v = 0 := by unfold pH; rw [Nat.div_eq_of_lt (by omega)]; rfl
        rw [a1, a2, log_of hv3.1 hv3.2] at d
        exact d
      simp only [x1, if_true, q_L_shortest, q_X11_shortest, g1, xbnd, if_pos (lN0 (show v < 9223372036854775808 by omega) hv2.2), e5, Option.bind_some, q_X12_shortest, i24T h2 h4, ite10, u1, e1, if_pos c1, t_X12_tells, t_X12_thrown, ite00, c0, updL_eq, lgs]
      exact ⟨_, rfl⟩
  · simp only [x1, if_true, q_L_shortest, q_X11_shortest, sokF h2, xbnd, Option.bind_some, q_X12_shortest, i24F h2, ite00, ite10, t_X12_fails, t_X12_thrown]
    exact ⟨_, rfl⟩

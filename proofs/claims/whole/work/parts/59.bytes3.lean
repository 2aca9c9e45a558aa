/-! Typing bytes, and going back. -/
theorem byte_ex (z : Int32) : ∃ b, b < 256 ∧ z &&& 255 = nI b := by
  refine ⟨(z.toBitVec &&& 255#32).toNat, ?_, ?_⟩
  · rw [BitVec.toNat_and]
    exact Nat.lt_of_le_of_lt Nat.and_le_right (by decide)
  · apply Int32.toBitVec_inj.mp
    rw [Int32.toBitVec_and]
    show _ = BitVec.ofNat 32 _
    rw [BitVec.ofNat_toNat, BitVec.setWidth_eq]
    rfl
theorem typeC {w : Int32} {n m : Nat} {f : Nat → Int32} (h : n + m ≤ 64) : ∃ r : Int32 × Int32 × (Nat → Int32), q_X11_type_L57 w (nI m) 10000 (nI 0) (nI n) f = some r ∧ r.2.1 = nI (n + m) ∧ ∀ t, r.2.2 t = if n ≤ t ∧ t < n + m then t_X11_byteOfWord w (nI (t - n)) else f t := by
  obtain ⟨r, hr, h1, h2⟩ := loop_inv (F := fun k (s : Int32 × Int32 × (Nat → Int32)) => q_X11_type_L57 w (nI m) k s.1 s.2.1 s.2.2)
    (fun i s => s.1 = nI i ∧ s.2.1 = nI (n + i) ∧ ∀ t, s.2.2 t = if n ≤ t ∧ t < n + i then t_X11_byteOfWord w (nI (t - n)) else f t)
    (fun r => r.2.1 = nI (n + m) ∧ ∀ t, r.2.2 t = if n ≤ t ∧ t < n + m then t_X11_byteOfWord w (nI (t - n)) else f t) m
    (fun k s h => by
      obtain ⟨l, c, v⟩ := s
      obtain ⟨rfl, h1, h2⟩ := h
      refine ⟨_, ?_, h1, h2⟩
      show q_X11_type_L57 _ _ (k + 1) (nI m) c v = _
      rw [q_X11_type_L57, if_pos (nI_le (Nat.le_refl m) (by omega))])
    (fun k i s hi h => by
      obtain ⟨l, c, v⟩ := s
      obtain ⟨rfl, h1, h2⟩ := h
      have h1 : c = nI (n + i) := h1
      subst h1
      have h2 : ∀ t, v t = if n ≤ t ∧ t < n + i then t_X11_byteOfWord w (nI (t - n)) else f t := h2
      refine Or.inr ⟨(nI (i + 1), nI (n + i + 1), upd v (n + i) (t_X11_byteOfWord w (nI i))), ?_, rfl, rfl, ?_⟩
      · show q_X11_type_L57 _ _ (k + 1) (nI i) (nI (n + i)) v = q_X11_type_L57 _ _ k (nI (i + 1)) (nI (n + i + 1)) _
        rw [q_X11_type_L57, if_neg (nI_ge hi (by omega)), appendC (by omega) (by decide) (by omega), Option.bind_some, nI_1]
      · intro t
        show upd v (n + i) _ t = _
        by_cases e : t = n + i
        · subst e
          rw [upd_eq, if_pos (by omega), show n + i - n = i by omega]
        · rw [upd_ne e, h2]
          by_cases c : n ≤ t ∧ t < n + i
          · rw [if_pos c, if_pos (by omega)]
          · rw [if_neg c, if_neg (by omega)])
    10000 0 (nI 0, nI n, f) ⟨rfl, rfl, fun t => by rw [if_neg (by omega)]⟩ (Nat.zero_le _) (by omega)
  exact ⟨r, hr, h1, h2⟩
theorem typeM {w : Int32} {n m : Nat} {f : Nat → Int32} (h : n + m ≤ 64) : ∃ r : Int32 × (Nat → Int32), q_X12_type_L41 w (nI m) (nI n) 10000 (nI 0) f = some r ∧ ∀ t, r.2 t = if n ≤ t ∧ t < n + m then t_X11_byteOfWord w (nI (t - n)) else f t := by
  obtain ⟨r, hr, h2⟩ := loop_inv (F := fun k (s : Int32 × (Nat → Int32)) => q_X12_type_L41 w (nI m) (nI n) k s.1 s.2)
    (fun i s => s.1 = nI i ∧ ∀ t, s.2 t = if n ≤ t ∧ t < n + i then t_X11_byteOfWord w (nI (t - n)) else f t)
    (fun r => ∀ t, r.2 t = if n ≤ t ∧ t < n + m then t_X11_byteOfWord w (nI (t - n)) else f t) m
    (fun k s h => by
      obtain ⟨l, v⟩ := s
      obtain ⟨rfl, h2⟩ := h
      refine ⟨_, ?_, h2⟩
      show q_X12_type_L41 _ _ _ (k + 1) (nI m) v = _
      rw [q_X12_type_L41, if_pos (nI_le (Nat.le_refl m) (by omega))])
    (fun k i s hi h => by
      obtain ⟨l, v⟩ := s
      obtain ⟨rfl, h2⟩ := h
      have h2 : ∀ t, v t = if n ≤ t ∧ t < n + i then t_X11_byteOfWord w (nI (t - n)) else f t := h2
      refine Or.inr ⟨(nI (i + 1), upd v (n + i) (t_X11_byteOfWord w (nI i))), ?_, rfl, ?_⟩
      · show q_X12_type_L41 _ _ _ (k + 1) (nI i) v = q_X12_type_L41 _ _ _ k (nI (i + 1)) _
        rw [q_X12_type_L41, if_neg (nI_ge hi (by omega)), nI_add, if_pos (xinI (by omega) (by omega)), nI_clamp (by omega), nI_1]
        rfl
      · intro t
        show upd v (n + i) _ t = _
        by_cases e : t = n + i
        · subst e
          rw [upd_eq, if_pos (by omega), show n + i - n = i by omega]
        · rw [upd_ne e, h2]
          by_cases c : n ≤ t ∧ t < n + i
          · rw [if_pos c, if_pos (by omega)]
          · rw [if_neg c, if_neg (by omega)])
    10000 0 (nI 0, f) ⟨rfl, fun t => by rw [if_neg (by omega)]⟩ (Nat.zero_le _) (by omega)
  exact ⟨r, hr, h2⟩
theorem M_0 : MS_0 := by
  intro S l4 c1_1 c3_1 c3_2 c4_0 a6 a5 a2 a66 c48_17 c48_20 a52 a49 c8_0 c8_1 c8_2 c8_3 c8_4 c8_5 c48_24 c48_25 c48_26 c48_27 c48_28 c7_0 c7_1 c7_2 c7_3 c7_4 c7_5 a10 a11 a53 c17_1 a18 c48_21 a57 c23_4 c24_0 a25 a26 c48_22 a58 a22 x1 x2 x3 x4 x5 hB hP hK h7 hS hD hW hC
  have hB0 := hB
  obtain ⟨n, B, hn, rfl, rfl, hB⟩ := hB
  unfold q_case0
  generalize S.2 (l4 + (1 : Int32)).toNatClampNeg = p1
  generalize S.2 (l4 + (2 : Int32)).toNatClampNeg = p2
  have hn' : n < 2147483648 := by omega
  have bad : (p2.toInt < 1 ∨ (5 : Int) ≤ p2.toInt) → q_X11_type p1 p2 (nI n) c3_1 c3_2 c4_0 a6 a5 a2 = some (.inl 0, (nI n, c3_1, c3_2, a6, a5, a2)) ∧ t_X12_in p2.toInt64 1 4 = 0 := by
    intro h
    refine ⟨?_, in_F (by rw [tl]; show _ < (1 : Int) ∨ (4 : Int) < _; omega)⟩
    unfold q_X11_type
    by_cases c1 : p2 < 1
    · rw [if_pos c1]
    · rw [if_neg c1]
      rw [ltI, show (1 : Int32).toInt = 1 from rfl] at c1
      rw [if_neg (by rw [leI, show (4 : Int32).toInt = 4 from rfl]; omega)]
  by_cases hp : p2.toInt < 1 ∨ (5 : Int) ≤ p2.toInt
  · obtain ⟨g1, g2⟩ := bad hp
    simp only [x1, x2, if_true, q_L_type, g1, xbnd, Option.bind_some, q_X12_type, g2, ite00, ite10, t_X12_fails, t_X12_thrown]
    exact ⟨_, rfl, hB0, hP⟩
  · obtain ⟨m, hm, rfl⟩ : ∃ m, m < 5 ∧ p2 = nI m := by
      rcases cls p2 (n := 5) (by omega) with h | h
      · exact h
      · exact absurd (by omega) hp
    rw [nI_toInt (by omega)] at hp
    have g2 : t_X12_in (nI m).toInt64 1 4 = 1 := in_T (by rw [tl, nI_toInt (by omega)]; show (1 : Int) ≤ _; omega) (by rw [tl, nI_toInt (by omega)]; show _ ≤ (4 : Int); omega)
    have c1 : ¬ nI m < 1 := nI_nlt (b := 1) (by omega) (by omega)
    have c2 : nI m ≤ 4 := nI_le (b := 4) (by omega) (by decide)
    have e4 : (64 : Int32) - nI m = nI (64 - m) := nI_sub (a := 64) (by omega)
    by_cases h64 : n + m ≤ 64
    · obtain ⟨x, y, e1, e2, hP'⟩ := keepP hn hB hP
      obtain ⟨r, r1, r2, r3⟩ := typeC (w := p1) (f := a2) h64
      obtain ⟨u, u1, u2⟩ := typeM (w := p1) (f := a49) h64
      rw [← k0] at r1 u1
      have s1 : nI n ≤ nI (64 - m) := nI_le (by omega) (by omega)
      have s2 : nI (n + m) ≤ 64 := nI_le (b := 64) (by omega) (by decide)
      simp only [x1, x2, if_true, q_L_type, q_X11_type, if_neg c1, if_pos c2, t_X5_size, e4, if_pos s1, e1, Option.bind_some, r1, xbnd, q_X12_type, g2, ite10, nI_add, if_pos s2, e2, u1, t_X12_tells, t_X12_thrown, ite00, c0, updL_eq, r2, lgs]
      refine ⟨_, rfl, ⟨n + m, fun j => if n ≤ j ∧ j < n + m then (byte_ex (xus p1 (24 - 8 * nI (j - n)))).choose else B j, h64, rfl, rfl, fun j hj => ?_⟩, hP'⟩
      show _ ∧ r.2.2 j = _ ∧ u.2 j = _
      rw [r3, u2]
      by_cases c : n ≤ j ∧ j < n + m
      · simp only [if_pos c]
        obtain ⟨q1, q2⟩ := (byte_ex (xus p1 (24 - 8 * nI (j - n)))).choose_spec
        exact ⟨q1, q2, q2⟩
      · simp only [if_neg c]; exact hB _ (by omega)
    · have s1 : ¬ nI n ≤ nI (64 - m) := nI_ge (by omega) (by omega)
      have s2 : ¬ nI (n + m) ≤ 64 := nI_ge (a := 64) (by omega) (by omega)
      simp only [x1, x2, if_true, q_L_type, q_X11_type, if_neg c1, if_pos c2, t_X5_size, e4, if_neg s1, Option.bind_some, xbnd, q_X12_type, g2, ite10, nI_add, if_neg s2, t_X12_fails, t_X12_thrown]
      exact ⟨_, rfl, hB0, hP⟩
theorem readC {s m : Nat} {a6 a5 a2 : Nat → Int32} (hs : s < 10) (hm : m ≤ 64) (h6 : a6 s = nI m) : ∃ g, q_X8_read (nI s) (nI 64) 10 a6 640 a5 64 a2 = some (nI m, g) ∧ ∀ t, t < m → g t = a5 (64 * s + t) := by
  obtain ⟨r, hr, h1, h2⟩ := loop_inv (F := fun k (x : Int32 × Int32 × (Nat → Int32)) => q_X8_read_L20 (nI s) (nI 64) 10 a6 640 a5 64 k x.1 x.2.1 x.2.2)
    (fun i x => x.1 = nI i ∧ x.2.1 = nI i ∧ ∀ t, t < i → x.2.2 t = a5 (64 * s + t))
    (fun r => r.2.1 = nI m ∧ ∀ t, t < m → r.2.2 t = a5 (64 * s + t)) m
    (fun k x h => by
      obtain ⟨l, c, v⟩ := x
      obtain ⟨rfl, h1, h2⟩ := h
      refine ⟨_, ?_, h1, h2⟩
      show q_X8_read_L20 _ _ _ _ _ _ _ (k + 1) (nI m) c v = _
      rw [q_X8_read_L20, if_pos (xinI (by omega) (by omega)), nI_clamp (by omega), h6, if_pos (nI_le (Nat.le_refl m) (by omega))])
    (fun k i x hi h => by
      obtain ⟨l, c, v⟩ := x
      obtain ⟨rfl, h1, h2⟩ := h
      have h1 : c = nI i := h1
      subst h1
      have h2 : ∀ t, t < i → v t = a5 (64 * s + t) := h2
      refine Or.inr ⟨(nI (i + 1), nI (i + 1), upd v i (a5 (64 * s + i))), ?_, rfl, rfl, ?_⟩
      · show q_X8_read_L20 _ _ _ _ _ _ _ (k + 1) (nI i) (nI i) v = q_X8_read_L20 _ _ _ _ _ _ _ k (nI (i + 1)) (nI (i + 1)) _
        rw [q_X8_read_L20, if_pos (xinI (by omega) (by omega)), nI_clamp (by omega), h6, if_neg (nI_ge hi (by omega)), nI_mul, nI_add, if_neg (nI_ge (by omega) (by omega)), if_pos (xinI (by omega) (by omega)), nI_clamp (by omega), appendC (by omega) (by decide) (by omega), Option.bind_some, nI_1, Nat.mul_comm s 64]
      · intro t ht
        show upd v i _ t = _
        by_cases e : t = i
        · subst e; exact upd_eq
        · rw [upd_ne e]; exact h2 t (by omega))
    10000 0 (nI 0, nI 0, a2) ⟨rfl, rfl, fun t ht => absurd ht (Nat.not_lt_zero t)⟩ (Nat.zero_le _) (by omega)
  refine ⟨r.2.2, ?_, h2⟩
  unfold q_X8_read t_X5_empty
  have hr' : q_X8_read_L20 (nI s) (nI 64) 10 a6 640 a5 64 10000 (nI 0) (nI 0) a2 = some r := hr
  rw [if_neg (nI_pos (by omega)), if_pos (nI_lt hs (by omega)), k0, hr', Option.bind_some, h1]
theorem undoM {q m : Nat} {a52 a49 : Nat → Int32} (hq : q < 10) (hm : m ≤ 64) : ∃ r : Int32 × (Nat → Int32), q_X12_undo_L41 (nI m) (nI q) a52 10000 (nI 0) a49 = some r ∧ ∀ t, t < m → r.2 t = a52 (65 * q + 1 + t) := by
  obtain ⟨r, hr, h2⟩ := loop_inv (F := fun k (x : Int32 × (Nat → Int32)) => q_X12_undo_L41 (nI m) (nI q) a52 k x.1 x.2)
    (fun i x => x.1 = nI i ∧ ∀ t, t < i → x.2 t = a52 (65 * q + 1 + t))
    (fun r => ∀ t, t < m → r.2 t = a52 (65 * q + 1 + t)) m
    (fun k x h => by
      obtain ⟨l, v⟩ := x
      obtain ⟨rfl, h2⟩ := h
      refine ⟨_, ?_, h2⟩
      show q_X12_undo_L41 _ _ _ (k + 1) (nI m) v = _
      rw [q_X12_undo_L41, if_pos (nI_le (Nat.le_refl m) (by omega))])
    (fun k i x hi h => by
      obtain ⟨l, v⟩ := x
      obtain ⟨rfl, h2⟩ := h
      have h2 : ∀ t, t < i → v t = a52 (65 * q + 1 + t) := h2
      refine Or.inr ⟨(nI (i + 1), upd v i (a52 (65 * q + 1 + i))), ?_, rfl, ?_⟩
      · show q_X12_undo_L41 _ _ _ (k + 1) (nI i) v = q_X12_undo_L41 _ _ _ k (nI (i + 1)) _
        rw [q_X12_undo_L41, if_neg (nI_ge hi (by omega)), k65, nI_mul, nI_1, nI_add, if_pos (xinI (by omega) (by omega)), if_pos (xinI (by omega) (by omega)), nI_clamp (by omega), nI_clamp (by omega), nI_1]
      · intro t ht
        show upd v i _ t = _
        by_cases e : t = i
        · subst e; exact upd_eq
        · rw [upd_ne e]; exact h2 t (by omega))
    10000 0 (nI 0, a49) ⟨rfl, fun t ht => absurd ht (Nat.not_lt_zero t)⟩ (Nat.zero_le _) (by omega)
  exact ⟨r, hr, h2⟩
theorem M_6 : MS_6 := by
  intro S l4 c3_1 c3_2 c4_0 a6 a5 a2 c1_1 a66 c48_17 c48_20 a52 a49 c8_0 c8_1 c8_2 c8_3 c8_4 c8_5 c48_24 c48_25 c48_26 c48_27 c48_28 c7_0 c7_1 c7_2 c7_3 c7_4 c7_5 a10 a11 a53 c17_1 a18 c48_21 a57 c23_4 c24_0 a25 a26 c48_22 a58 a22 x1 x2 x3 x4 x5 hB hP hK h7 hS hD hW hC
  have hB0 := hB
  have hP0 := hP
  obtain ⟨n, B, hn, rfl, rfl, hB⟩ := hB
  obtain ⟨p, q, hp, hq, rfl, rfl, rfl, rfl, hs⟩ := hP
  unfold q_case6
  by_cases h0 : q = 0
  · subst h0
    have c1 : nI 0 ≤ (0 : Int32) := by decide
    simp only [q_L_undo, q_X11_undo, t_X3_hasSome, if_pos c1, ite00, ite0e, xbnd, Option.bind_some, q_X12_undo, if_neg (show ¬ ¬ nI 0 = (0 : Int32) from fun h => h rfl), t_X12_fails, t_X12_thrown, if_true, ite10]
    exact ⟨_, rfl, hB0, hP0⟩
  · obtain ⟨m, C, hm, h1, h2, h3⟩ := hs (q - 1) (by omega)
    have es : (p + 10 - q + (q - 1)) % 10 = (p + 9) % 10 := by omega
    rw [es] at h1 h3
    obtain ⟨g, g1, g2⟩ := readC (a2 := a2) (a5 := a5) (show (p + 9) % 10 < 10 by omega) hm h1
    obtain ⟨u, u1, u2⟩ := undoM (a52 := a52) (a49 := a49) (show q - 1 < 10 by omega) hm
    rw [← k0] at u1
    have e1 : (nI p + 10 - 1) - (nI p + 10 - 1) / 10 * 10 = nI ((p + 9) % 10) := by
      rw [k10, nI_add, nI_pred' (by omega), show p + 10 - 1 = p + 9 by omega, nI_mod (by omega) (by omega) (by omega)]
    have e2 : (if nI q - 1 < 0 then (0 : Int32) else nI q - 1) = nI (q - 1) := by
      rw [nI_pred' (by omega), if_neg (nI_pos (by omega))]
    have c1 : ¬ nI q ≤ (0 : Int32) := nI_ge (a := 0) (by omega) (by omega)
    have c2 : ¬ nI q = (0 : Int32) := ne_of_nI (b := 0) h0 (by omega) (by decide)
    have e3 : (65 : Int32) * nI (q - 1) = nI (65 * (q - 1)) := nI_mul 65 (q - 1)
    have e4 : nI q - 1 = nI (q - 1) := nI_pred' (by omega)
    simp only [q_L_undo, q_X11_undo, t_X3_hasSome, if_neg c1, ite10, q_X3_giveBack, e1, g1, Option.bind_some, e2, xbnd, t_X5_size, q_X12_undo, if_pos c2, e4, e3, xinI (show 65 * (q - 1) < 650 by omega) (by decide), if_true, nI_clamp (show 65 * (q - 1) < 2 ^ 31 by omega), h2, u1, t_X12_tells, t_X12_thrown, ite00, c0, updL_eq, lgs]
    refine ⟨_, rfl, ⟨m, C, hm, rfl, rfl, fun j hj => ?_⟩, (p + 9) % 10, q - 1, by omega, by omega, rfl, if_neg (nI_pos (by omega)), rfl, rfl, ?_⟩
    · obtain ⟨b1, b2, b3⟩ := h3 j hj
      show _ ∧ g j = _ ∧ u.2 j = _
      rw [g2 j hj, u2 j hj]
      exact ⟨b1, b2, b3⟩
    · intro j hj
      obtain ⟨m2, C2, hm2, y1, y2, y3⟩ := hs j (by omega)
      rw [show ((p + 9) % 10 + 10 - (q - 1) + j) % 10 = (p + 10 - q + j) % 10 by omega]
      exact ⟨m2, C2, hm2, y1, y2, y3⟩

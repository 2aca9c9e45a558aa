/-! The call common. -/
theorem com47 {P Q : Nat} {a54 a55 : Nat → Int32} (hP : RW a54 P) (hQ : RW a55 Q) :
    ∃ r : Int32 × (Nat → Int32) × (Nat → Int32), q_X12_common_L47 10000 0 a54 a55 = some r ∧ RW r.2.1 Q ∧ RW r.2.2 P := by
  obtain ⟨r, hr, g1, g2⟩ := loop_inv (F := fun f (x : Int32 × (Nat → Int32) × (Nat → Int32)) => q_X12_common_L47 f x.1 x.2.1 x.2.2)
    (fun i x => x.1 = nI i ∧ (∀ t, t < 96 → x.2.1 t = nI ((if t < i then Q else P).testBit t).toNat) ∧ ∀ t, t < 96 → x.2.2 t = nI ((if t < i then P else Q).testBit t).toNat)
    (fun r => RW r.2.1 Q ∧ RW r.2.2 P) 96
    (fun f x h => by
      obtain ⟨c, a, a'⟩ := x
      obtain ⟨e1, e2, e3⟩ := h
      have e1 : c = nI 96 := e1
      subst e1
      exact ⟨_, by show q_X12_common_L47 (f + 1) (nI 96) a a' = _; rw [q_X12_common_L47, if_pos (by decide)], fun t ht => by have := e2 t ht; rw [if_pos ht] at this; exact this, fun t ht => by have := e3 t ht; rw [if_pos ht] at this; exact this⟩)
    (fun f i x hi h => by
      obtain ⟨c, a, a'⟩ := x
      obtain ⟨e1, e2, e3⟩ := h
      have e1 : c = nI i := e1
      subst e1
      refine Or.inr ⟨(nI (i + 1), upd a i (a' i), upd a' i (a i)), ?_, rfl, ?_, ?_⟩
      · show q_X12_common_L47 (f + 1) (nI i) a a' = q_X12_common_L47 f (nI (i + 1)) _ _
        rw [q_X12_common_L47, if_neg (show ¬ (96 : Int32) ≤ nI i from nI_ge (b := 96) hi (by decide)), if_pos (xinI (by omega) (by omega)), if_pos (xinI (by omega) (by omega)), if_pos (xinI (by omega) (by omega)), if_pos (xinI (by omega) (by omega)), nI_clamp (by omega), nI_1]
      · intro t ht
        show upd a _ _ t = _
        by_cases e : t = i
        · subst e
          have := e3 t ht
          rw [if_neg (by omega)] at this
          rw [upd_eq, if_pos (by omega)]; exact this
        · have := e2 t ht
          rw [upd_ne e]
          by_cases c : t < i
          · rw [if_pos c] at this; rw [if_pos (by omega)]; exact this
          · rw [if_neg c] at this; rw [if_neg (by omega)]; exact this
      · intro t ht
        show upd a' _ _ t = _
        by_cases e : t = i
        · subst e
          have := e2 t ht
          rw [if_neg (by omega)] at this
          rw [upd_eq, if_pos (by omega)]; exact this
        · have := e3 t ht
          rw [upd_ne e]
          by_cases c : t < i
          · rw [if_pos c] at this; rw [if_pos (by omega)]; exact this
          · rw [if_neg c] at this; rw [if_neg (by omega)]; exact this)
    10000 0 (nI 0, a54, a55) ⟨rfl, fun t ht => by rw [if_neg (Nat.not_lt_zero t)]; exact hP t ht, fun t ht => by rw [if_neg (Nat.not_lt_zero t)]; exact hQ t ht⟩ (Nat.zero_le _) (by omega)
  exact ⟨r, hr, g1, g2⟩
theorem com98 {P s : Nat} {a53 a54 : Nat → Int32} (hs : s < 8) (h : RW a54 P) :
    ∃ r : Int32 × (Nat → Int32), q_X12_common_L98 (nI s) a54 10000 0 a53 = some r ∧ (∀ k, k < 96 → r.2 (96 * s + k) = nI (P / 2 ^ k % 2)) ∧ ∀ t, (t < 96 * s ∨ 96 * s + 96 ≤ t) → r.2 t = a53 t := by
  exact layT (F := q_X12_common_L98 (nI s) a54) (s := s) (a53 := a53) (v := fun k => nI (P / 2 ^ k % 2))
    (fun f a => by rw [q_X12_common_L98, if_pos (show (96 : Int32) ≤ nI 96 by decide)])
    (fun f k v hk => by
      rw [q_X12_common_L98, if_neg (show ¬ (96 : Int32) ≤ nI k from nI_ge (b := 96) hk (by decide)), k96, nI_mul, nI_add, if_pos (xinI (by omega) (by omega)), if_pos (xinI (by omega) (by omega)), nI_clamp (by omega), nI_clamp (by omega), h k hk, bt_tb, nI_1])
theorem euclid : ∀ n P Q i f (w w' : Int64), Q < 2 ^ n → n ≤ 96 → i + n ≤ 190 → n < f → P < 2 ^ 96 →
    ∃ G, G < 2 ^ 96 ∧ (∃ r : Int32 × Int64 × Int64 × Int64 × Int64 × Int64 × Int64, q_X11_common_L14 f (nI i) (pL P) (pH P) (pL Q) (pH Q) w w' = some r ∧ r.2.1 = pL G ∧ r.2.2.1 = pH G) ∧
      ∀ a54 a55 a56, RW a54 P → RW a55 Q → ∃ r : (Nat → Int32) × (Nat → Int32) × (Nat → Int32), q_X12_common_L33 f a54 a55 a56 = some r ∧ RW r.1 G := by
  intro n
  induction n with
  | zero =>
    intro P Q i f w w' h1 h2 h3 h4 h5
    obtain ⟨f, rfl⟩ : ∃ g, f = g + 1 := ⟨f - 1, by omega⟩
    have : Q = 0 := by omega
    subst this
    refine ⟨P, h5, ⟨_, by rw [q_X11_common_L14, if_neg (show ¬ (190 : Int32) < nI i by rw [ltI, nI_toInt (by omega), show (190 : Int32).toInt = 190 from rfl]; omega), isZ (Nat.two_pow_pos 96), if_pos rfl, ite10], rfl, rfl⟩, fun a54 a55 a56 b1 b2 => ⟨_, by rw [q_X12_common_L33, degTwo (Nat.two_pow_pos 96) b2, Option.bind_some, if_pos (by decide)], b1⟩⟩
  | succ n ih =>
    intro P Q i f w w' h1 h2 h3 h4 h5
    obtain ⟨f, rfl⟩ : ∃ g, f = g + 1 := ⟨f - 1, by omega⟩
    have hQ : Q < 2 ^ 96 := Nat.lt_of_lt_of_le h1 (Nat.pow_le_pow_right (by decide) h2)
    by_cases z : Q = 0
    · subst z
      refine ⟨P, h5, ⟨_, by rw [q_X11_common_L14, if_neg (show ¬ (190 : Int32) < nI i by rw [ltI, nI_toInt (by omega), show (190 : Int32).toInt = 190 from rfl]; omega), isZ (Nat.two_pow_pos 96), if_pos rfl, ite10], rfl, rfl⟩, fun a54 a55 a56 b1 b2 => ⟨_, by rw [q_X12_common_L33, degTwo (Nat.two_pow_pos 96) b2, Option.bind_some, if_pos (by decide)], b1⟩⟩
    · rcases dg_cases hQ with ⟨e, -⟩ | ⟨-, h95, e, hl, hg⟩
      · exact absurd e z
      have hb : Q.log2 ≤ n := by have := (Nat.log2_lt z).mpr h1; omega
      have hr := dv_rest hg hl (96 - Q.log2) P 0 (by rw [show 96 - Q.log2 + Q.log2 = 96 by omega]; exact h5)
      have hlv := leaveC h5 hQ z
      have hdv := fun a54 a55 a56 => dividesM (a54 := a54) (a55 := a55) (a56 := a56) h5 hQ z
      generalize (dv Q Q.log2 (96 - Q.log2) P 0).1 = R at hr hlv hdv
      generalize (dv Q Q.log2 (96 - Q.log2) P 0).2 = T at hlv hdv
      have hR : R < 2 ^ n := Nat.lt_of_lt_of_le hr (Nat.pow_le_pow_right (by decide) hb)
      obtain ⟨G, g1, ⟨r, r1, r2⟩, g3⟩ := ih Q R (i + 1) f (pL R) (pH R) hR (by omega) (by omega) (by omega) hQ
      refine ⟨G, g1, ⟨r, ?_, r2⟩, ?_⟩
      · rw [q_X11_common_L14, if_neg (show ¬ (190 : Int32) < nI i by rw [ltI, nI_toInt (by omega), show (190 : Int32).toInt = 190 from rfl]; omega), isZ hQ, if_neg z, ite00, hlv, Option.bind_some]
        rw [← nI_1] at r1
        exact r1
      · intro a54 a55 a56 b1 b2
        obtain ⟨k, k1, k2, k3⟩ := hdv a54 a55 a56 b1 b2
        obtain ⟨y, y1, y2, y3⟩ := com47 k3 b2
        obtain ⟨q, q1, q2⟩ := g3 y.2.1 y.2.2 k.1 y2 y3
        refine ⟨q, ?_, q2⟩
        rw [q_X12_common_L33, degTwo hQ b2, Option.bind_some, if_neg (dgM1 z hQ), k1, Option.bind_some, y1, Option.bind_some, q1]
theorem M_19 : MS_19 := by
  intro S l4 a10 a11 c12_0 c12_1 c13_0 c13_1 c14_0 c14_1 a66 a53 a54 a55 a56 c1_1 a2 c48_17 a49 c3_1 c3_2 c4_0 a5 a6 c48_20 a52 c8_0 c8_1 c8_2 c8_3 c8_4 c8_5 c48_24 c48_25 c48_26 c48_27 c48_28 c7_0 c7_1 c7_2 c7_3 c7_4 c7_5 c17_1 a18 c48_21 a57 c23_4 c24_0 a25 a26 c48_22 a58 a22 x1 x2 x3 x4 x5 hB hP hK h7 hS hD hW hC
  unfold q_case19
  generalize S.2 (l4 + (1 : Int32)).toNatClampNeg = p1
  generalize S.2 (l4 + (2 : Int32)).toNatClampNeg = p2
  generalize S.2 (l4 + (3 : Int32)).toNatClampNeg = p3
  rcases three p1 p2 p3 with ⟨s, t, u, hs, ht, hu, rfl, rfl, rfl⟩ | h
  · obtain ⟨P, hP, b1, b2, b3⟩ := hS t ht
    obtain ⟨Q, hQ, q1, q2, q3⟩ := hS u hu
    have b1 : a10 t = pL P := b1
    have b2 : a11 t = pH P := b2
    have q1 : a10 u = pL Q := q1
    have q2 : a11 u = pH Q := q2
    obtain ⟨G, hG, ⟨r, r1, r2, r3⟩, hm⟩ := euclid 96 P Q 0 10000 c14_0 c14_1 hQ (by omega) (by omega) (by omega) hP
    have r1 : q_X11_common_L14 10000 0 (pL P) (pH P) (pL Q) (pH Q) c14_0 c14_1 = some r := r1
    obtain ⟨y, y1, y2, y3⟩ := layBothT (a54 := a54) (a55 := a55) ht hu b3 q3
    obtain ⟨k, k1, k2⟩ := hm y.1 y.2 a56 y2 y3
    obtain ⟨v, v1, v2, v3⟩ := com98 (a53 := a53) hs k2
    have e1 : q_X11_common (nI s) (nI t) (nI u) a10 a11 c12_0 c12_1 c13_0 c13_1 c14_0 c14_1 = some (.inr (dgI G), (vp_updL a10 s (pL G), vp_updL a11 s (pH G), pL G, pH G, r.2.2.2.1, r.2.2.2.2.1, r.2.2.2.2.2.1, r.2.2.2.2.2.2)) := by
      unfold q_X11_common
      rw [rsT hs, takeT ht hu, b1, b2, q1, q2]
      simp only [xbnd, r1, Option.bind_some, r2, r3, putS hs hG]
    have e2 : q_X12_common (nI s) (nI t) (nI u) a53 a54 a55 a56 = some ((t_X12_tells (dgI G)).1, (t_X12_tells (dgI G)).2, v.2, k.1, k.2.1, k.2.2) := by
      unfold q_X12_common
      rw [msT hs, ite1e, msT ht, ite1e, msT hu, ite10, y1, Option.bind_some, k1, Option.bind_some, v1, Option.bind_some, degM hs hG v2, Option.bind_some]
    simp only [x1, x2, x3, if_true, q_L_common, e1, xbnd, Option.bind_some, e2, t_X12_tells, t_X12_thrown, ite00, c0, updL_eq, lgs]
    exact ⟨_, rfl, putI hs hG hS v2 v3⟩
  · have e1 : q_X11_common p1 p2 p3 a10 a11 c12_0 c12_1 c13_0 c13_1 c14_0 c14_1 = some (.inl 2, (a10, a11, c12_0, c12_1, c13_0, c13_1, c14_0, c14_1)) := by
      unfold q_X11_common
      rcases h with h | ⟨s, hs, rfl, h⟩
      · rw [rsF h]; rfl
      · rw [rsT hs]
        simp only [xbnd, takeF h]
    have e2 : q_X12_common p1 p2 p3 a53 a54 a55 a56 = some ((t_X12_fails 1).1, (t_X12_fails 1).2, a53, a54, a55, a56) := by
      unfold q_X12_common
      rcases h with h | ⟨s, hs, rfl, h | ⟨t, ht, rfl, h⟩⟩
      · rw [msF h, ite0e]
      · rw [msT hs, ite1e, msF h, ite0e]
      · rw [msT hs, ite1e, msT ht, ite1e, msF h, ite00]
    simp only [x1, x2, x3, if_true, q_L_common, e1, xbnd, Option.bind_some, e2, t_X12_fails, t_X12_thrown]
    exact ⟨_, rfl, hS⟩

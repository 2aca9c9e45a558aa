/-! The call factor. -/
theorem xor_or {T k : Nat} (h : T.testBit k = false) : T ||| 2 ^ k = T ^^^ 2 ^ k := by
  apply Nat.eq_of_testBit_eq
  intro i
  rw [Nat.testBit_or, Nat.testBit_xor, Nat.testBit_two_pow]
  by_cases e : k = i
  · subst e
    rw [h, decide_eq_true rfl]; rfl
  · rw [decide_eq_false e, Bool.or_false, Bool.xor_false]
theorem sdC {Q b : Nat} (hb : b ≤ 12) (q2 : Q < 2 ^ (b + 1)) : ∀ k f A T, k + b ≤ 13 → k < f → A < 2 ^ 13 → (∀ i, i < k → T.testBit i = false) → ∃ x, q_X4_smallDivision_L14 (nI Q) (nI b) f (nI A) (nI T) (nI (k + b) + (-1)) = some (nI (dv Q b k A T).1, nI (dv Q b k A T).2, x) := by
  intro k
  induction k with
  | zero =>
    intro f A T hk hf hA hT
    obtain ⟨f, rfl⟩ : ∃ g, f = g + 1 := ⟨f - 1, by omega⟩
    refine ⟨nI (0 + b) + (-1), ?_⟩
    rw [q_X4_smallDivision_L14, if_neg (nI_pos (by omega)), if_pos]
    · rfl
    · rw [Nat.zero_add]
      by_cases c : b = 0
      · subst c; decide
      · rw [nI_m1 (by omega)]
        exact nI_lt (by omega) (by omega)
  | succ k ih =>
    intro f A T hk hf hA hT
    obtain ⟨f, rfl⟩ : ∃ g, f = g + 1 := ⟨f - 1, by omega⟩
    have g : ¬ nI (k + b) < nI b := fun q => by have := (nI_ltI (by omega) (by omega)).mp q; omega
    have hT' : ∀ i, i < k → T.testBit i = false := fun i hi => hT i (by omega)
    have hQk : Q * 2 ^ k < 2 ^ 13 := by
      have := Nat.mul_lt_mul_of_pos_right q2 (Nat.two_pow_pos k)
      rw [← Nat.pow_add] at this
      exact Nat.lt_of_lt_of_le this (Nat.pow_le_pow_right (by decide) (by omega))
    rw [nI_m1 (by omega), show k + 1 + b - 1 = k + b by omega, q_X4_smallDivision_L14, if_neg (nI_pos (by omega)), if_neg g, nI_xus (by omega) (by omega), k1, nI_and, and1, tb_div, nI_sub (by omega), show k + b - b = k by omega, nI_shl _ (by omega), nI_shl _ (by omega), Nat.one_mul, nI_xor, nI_or]
    cases c : A.testBit (k + b) with
    | true =>
      rw [if_neg (show ¬ nI true.toNat = 0 by decide), if_neg (show ¬ nI true.toNat = 0 by decide), xor_or (hT k (by omega)), show dv Q b (k + 1) A T = dv Q b k (A ^^^ Q * 2 ^ k) (T ^^^ 2 ^ k) from if_pos c]
      exact ih f _ _ (by omega) (by omega) (Nat.xor_lt_two_pow hA hQk) (fun i hi => by rw [Nat.testBit_xor, hT' i hi, Nat.testBit_two_pow, decide_eq_false (show ¬ k = i by omega)]; rfl)
    | false =>
      rw [if_pos (show nI false.toNat = 0 from rfl), if_pos (show nI false.toNat = 0 from rfl), show dv Q b (k + 1) A T = dv Q b k A T from if_neg (by rw [c]; decide)]
      exact ih f _ _ (by omega) (by omega) hA hT'
theorem sdivC {Q b L : Nat} (q1 : 2 ^ b ≤ Q) (q2 : Q < 2 ^ (b + 1)) (hb : b ≤ 12) (hL : L < 2 ^ 13) : ∃ y, q_X4_smallDivision (nI L) (nI Q) = some y ∧ y &&& 65535 = nI (dv Q b (13 - b) L 0).1 ∧ xus y 16 = nI (dv Q b (13 - b) L 0).2 := by
  have h13 : 2 ^ (b + 1) ≤ 2 ^ 13 := Nat.pow_le_pow_right (by decide) (by omega)
  have eQ : dgI Q = nI b := log_of q1 q2
  obtain ⟨x, hx⟩ := sdC hb q2 (13 - b) 10000 L 0 (by omega) (by omega) hL (fun i _ => Nat.zero_testBit i)
  rw [show 13 - b + b = 13 by omega] at hx
  have hx : q_X4_smallDivision_L14 (nI Q) (nI b) 10000 (nI L) 0 12 = _ := hx
  obtain ⟨d1, d2, -, -⟩ := dv_small q1 q2 hb hL
  have d2 : (dv Q b (13 - b) L 0).2 < 2 ^ 13 := Nat.lt_of_lt_of_le d2 (Nat.pow_le_pow_right (by decide) (by omega))
  have d1 : (dv Q b (13 - b) L 0).1 < 2 ^ 12 := Nat.lt_of_lt_of_le d1 (Nat.pow_le_pow_right (by decide) hb)
  generalize (dv Q b (13 - b) L 0).1 = R at *
  generalize (dv Q b (13 - b) L 0).2 = U at *
  have e : nI U <<< ((16 : Int32) &&& 31) ||| nI R = nI (2 ^ 16 * U + R) := by
    rw [show (16 : Int32) = nI 16 from rfl, nI_shl _ (by omega), nI_or, Nat.or_comm, or_add (by omega)]
  refine ⟨nI (2 ^ 16 * U + R), ?_, ?_, ?_⟩
  · unfold q_X4_smallDivision
    rw [smD (by omega), Option.bind_some, eQ, hx, Option.bind_some]
    show some (nI U <<< ((16 : Int32) &&& 31) ||| nI R) = _
    rw [e]
  · rw [show (65535 : Int32) = nI 65535 from rfl, nI_and, show (65535 : Nat) = 2 ^ 16 - 1 from rfl, Nat.and_two_pow_sub_one_eq_mod, Nat.mul_add_mod, Nat.mod_eq_of_lt (by omega)]
  · rw [show (16 : Int32) = nI 16 from rfl, nI_xus (by omega) (by omega), Nat.mul_add_div (by decide), Nat.div_eq_of_lt (show R < 2 ^ 16 by omega), Nat.add_zero]
theorem restS {Q b : Nat} (q1 : 2 ^ b ≤ Q) (q2 : Q < 2 ^ (b + 1)) (hb : b ≤ 12) : ∀ k f A T, k + b ≤ 13 → A < 2 ^ (k + b) → k < f → q_X12_restBy_L2 (nI Q) f (nI A) = some (nI (dv Q b k A T).1) ∧ ((∀ i, i < k → T.testBit i = false) → ∃ x, q_X12_quotientBy_L4 (nI Q) f (nI A) (nI T) = some (x, nI (dv Q b k A T).2)) := by
  have h13 : 2 ^ (b + 1) ≤ 2 ^ 13 := Nat.pow_le_pow_right (by decide) (by omega)
  have eQ : dgI Q = nI b := log_of q1 q2
  intro k
  induction k with
  | zero =>
    intro f A T hk hA hf
    obtain ⟨f, rfl⟩ : ∃ g, f = g + 1 := ⟨f - 1, by omega⟩
    rw [Nat.zero_add] at hA
    have hl : dgI A < nI b := (dg_lt (by omega) (by omega)).mpr hA
    refine ⟨?_, fun _ => ⟨nI A, ?_⟩⟩
    · rw [q_X12_restBy_L2, hiM (by omega), Option.bind_some, hiM (by omega), Option.bind_some, eQ, if_pos hl]
      rfl
    · rw [q_X12_quotientBy_L4, hiM (by omega), Option.bind_some, hiM (by omega), Option.bind_some, eQ, if_pos hl]
      rfl
  | succ k ih =>
    intro f A T hk hA hf
    have hA13 : A < 2 ^ 13 := Nat.lt_of_lt_of_le hA (Nat.pow_le_pow_right (by decide) (by omega))
    rw [show k + 1 + b = (k + b) + 1 by omega] at hA
    cases c : A.testBit (k + b) with
    | true =>
      obtain ⟨f, rfl⟩ : ∃ g, f = g + 1 := ⟨f - 1, by omega⟩
      have eA : dgI A = nI (k + b) := log_of (Nat.ge_two_pow_of_testBit c) hA
      have hl : ¬ nI (k + b) < nI b := fun q => by have := (nI_ltI (by omega) (by omega)).mp q; omega
      have hQk : Q * 2 ^ k < 2 ^ (k + b + 1) := by
        have := Nat.mul_lt_mul_of_pos_right q2 (Nat.two_pow_pos k)
        rw [← Nat.pow_add, show b + 1 + k = k + b + 1 by omega] at this
        exact this
      have hx : A ^^^ Q * 2 ^ k < 2 ^ (k + b) := xor_top hA hQk c (by rw [Nat.testBit_mul_two_pow, decide_eq_true (show k ≤ k + b by omega), show k + b - k = b by omega, top_bit q1 q2]; rfl)
      obtain ⟨i1, i2⟩ := ih f (A ^^^ Q * 2 ^ k) (T ^^^ 2 ^ k) (by omega) hx (by omega)
      rw [show dv Q b (k + 1) A T = dv Q b k (A ^^^ Q * 2 ^ k) (T ^^^ 2 ^ k) from if_pos c]
      refine ⟨?_, fun hT => ?_⟩
      · rw [q_X12_restBy_L2, hiM (by omega), Option.bind_some, hiM (by omega), Option.bind_some, eQ, eA, if_neg hl, Option.bind_some, Option.bind_some, nI_sub (by omega), show k + b - b = k by omega, nI_shl _ (by omega), nI_xor]
        exact i1
      · obtain ⟨x, hx⟩ := i2 (fun i hi => by rw [Nat.testBit_xor, hT i (by omega), Nat.testBit_two_pow, decide_eq_false (show ¬ k = i by omega)]; rfl)
        refine ⟨x, ?_⟩
        rw [q_X12_quotientBy_L4, hiM (by omega), Option.bind_some, hiM (by omega), Option.bind_some, eQ, eA, if_neg hl, Option.bind_some, Option.bind_some, nI_sub (by omega), show k + b - b = k by omega, nI_shl _ (by omega), k1, nI_shl _ (by omega), Nat.one_mul, nI_xor, nI_or, xor_or (hT k (by omega))]
        exact hx
    | false =>
      rw [show dv Q b (k + 1) A T = dv Q b k A T from if_neg (by rw [c]; decide)]
      obtain ⟨i1, i2⟩ := ih f A T (by omega) (lt_of_top hA (by rw [c]; decide)) (by omega)
      exact ⟨i1, fun hT => i2 (fun i hi => hT i (by omega))⟩
theorem divM {Q b L : Nat} (q1 : 2 ^ b ≤ Q) (q2 : Q < 2 ^ (b + 1)) (hb : b ≤ 12) (hL : L < 2 ^ 13) : q_X12_restBy (nI L) (nI Q) = some (nI (dv Q b (13 - b) L 0).1) ∧ q_X12_quotientBy (nI L) (nI Q) = some (nI (dv Q b (13 - b) L 0).2) := by
  obtain ⟨i1, i2⟩ := restS q1 q2 hb (13 - b) 10000 L 0 (by omega) (by rw [show 13 - b + b = 13 by omega]; exact hL) (by omega)
  obtain ⟨x, hx⟩ := i2 (fun i _ => Nat.zero_testBit i)
  have hx : q_X12_quotientBy_L4 (nI Q) 10000 (nI L) 0 = _ := hx
  refine ⟨?_, ?_⟩
  · unfold q_X12_restBy
    rw [i1, Option.bind_some]
  · unfold q_X12_quotientBy
    rw [hx, Option.bind_some]
theorem z32 {a : Nat} (h : a < 2147483648) : nI a = 0 ↔ a = 0 := nI_eq (b := 0) h (by decide)
theorem le1 {L : Nat} (h : L < 2147483648) : nI L ≤ (1 : Int32) ↔ L ≤ 1 := by
  constructor
  · intro q
    exact Nat.le_of_not_lt (fun c => nI_ge (a := 1) c (by omega) q)
  · intro q
    exact nI_le (b := 1) q (by decide)
/-- one factor, as often as it divides -/
theorem innF (ix : Int32) {Q b : Nat} (q1 : 2 ^ b ≤ Q) (q2 : Q < 2 ^ (b + 1)) (h1 : 1 ≤ b) (hb : b ≤ 12) : ∀ k L c t f g (st : Int32), t + k = 12 → L < 2 ^ (k + 1) → 1 ≤ L → k < f → k < g →
    (q_X4_factorOf_L43 ix (nI Q) f (nI L) (nI c) (nI t) = some (Sum.inr (nI Q)) ∧ q_X12_factor_L52 ix (nI Q) g (nI L) (nI c) st = some (Sum.inr (nI Q, 0))) ∨
    ∃ L' c' t', q_X4_factorOf_L43 ix (nI Q) f (nI L) (nI c) (nI t) = some (Sum.inl (nI L', nI c', t')) ∧ q_X12_factor_L52 ix (nI Q) g (nI L) (nI c) st = some (Sum.inl (nI L', nI c', st)) ∧ 1 ≤ L' ∧ L' ≤ L ∧ (∀ d, d < 2 ^ 13 → dvs d L' → dvs d L) ∧ (L' = 1 ∨ ¬ dvs Q L') := by
  have h13 : 2 ^ (b + 1) ≤ 2 ^ 13 := Nat.pow_le_pow_right (by decide) (by omega)
  intro k
  induction k with
  | zero =>
    intro L c t f g st ht hL h0 hf hg
    obtain ⟨f, rfl⟩ : ∃ g, f = g + 1 := ⟨f - 1, by omega⟩
    obtain ⟨g, rfl⟩ : ∃ f, g = f + 1 := ⟨g - 1, by omega⟩
    have e : L = 1 := by omega
    subst e
    refine Or.inr ⟨1, c, nI t, ?_, ?_, Nat.le_refl 1, Nat.le_refl 1, fun d _ h => h, Or.inl rfl⟩
    · rw [q_X4_factorOf_L43, if_pos (show (12 : Int32) ≤ nI t from nI_le (a := 12) (by omega) (by omega))]
    · rw [q_X12_factor_L52, if_pos (show nI 1 ≤ 1 by decide)]
  | succ k ih =>
    intro L c t f g st ht hL h0 hf hg
    obtain ⟨f, rfl⟩ : ∃ g, f = g + 1 := ⟨f - 1, by omega⟩
    obtain ⟨g, rfl⟩ : ∃ f, g = f + 1 := ⟨g - 1, by omega⟩
    have hL13 : L < 2 ^ 13 := Nat.lt_of_lt_of_le hL (Nat.pow_le_pow_right (by decide) (by omega))
    have s1 : ¬ (12 : Int32) ≤ nI t := nI_ge (b := 12) (by omega) (by omega)
    by_cases c1 : L ≤ 1
    · have e : L = 1 := by omega
      subst e
      refine Or.inr ⟨1, c, nI t, ?_, ?_, Nat.le_refl 1, Nat.le_refl 1, fun d _ h => h, Or.inl rfl⟩
      · rw [q_X4_factorOf_L43, if_neg s1, if_pos (show nI 1 ≤ 1 by decide)]
      · rw [q_X12_factor_L52, if_pos (show nI 1 ≤ 1 by decide)]
    · have c1' : ¬ nI L ≤ (1 : Int32) := fun q => c1 ((le1 (by omega)).mp q)
      obtain ⟨y, y1, y2, y3⟩ := sdivC q1 q2 hb hL13
      obtain ⟨m1, m2⟩ := divM q1 q2 hb hL13
      obtain ⟨d1, d2, d3, d4⟩ := dv_small q1 q2 hb hL13
      have d1 : (dv Q b (13 - b) L 0).1 < 2 ^ 12 := Nat.lt_of_lt_of_le d1 (Nat.pow_le_pow_right (by decide) hb)
      have d2 : (dv Q b (13 - b) L 0).2 < 2 ^ 13 := Nat.lt_of_lt_of_le d2 (Nat.pow_le_pow_right (by decide) (by omega))
      by_cases c2 : (dv Q b (13 - b) L 0).1 = 0
      · have eC : q_X4_factorOf_L43 ix (nI Q) (f + 1) (nI L) (nI c) (nI t) = if ¬ nI c = ix then q_X4_factorOf_L43 ix (nI Q) f (nI (dv Q b (13 - b) L 0).2) (nI (c + 1)) (nI (t + 1)) else some (Sum.inr (nI Q)) := by
          rw [q_X4_factorOf_L43, if_neg s1, if_neg c1', y1, Option.bind_some, y2, c2, if_pos (show nI 0 = 0 from rfl), y3, nI_1, nI_1]
        have eM : q_X12_factor_L52 ix (nI Q) (g + 1) (nI L) (nI c) st = if ¬ nI c = ix then q_X12_factor_L52 ix (nI Q) g (nI (dv Q b (13 - b) L 0).2) (nI (c + 1)) st else some (Sum.inr (nI Q, 0)) := by
          rw [q_X12_factor_L52, if_neg c1', m1, Option.bind_some, c2, if_neg (show ¬ ¬ nI 0 = 0 from fun h => h rfl), m2, Option.bind_some, nI_1]
          rfl
        by_cases c3 : nI c = ix
        · refine Or.inl ⟨?_, ?_⟩
          · rw [eC, if_neg (fun h => h c3)]
          · rw [eM, if_neg (fun h => h c3)]
        · rw [if_pos c3] at eC eM
          obtain ⟨u1, u2, u3, u4⟩ := dv_quot q1 q2 h1 hb hL13 h0 hL c2
          rcases ih (dv Q b (13 - b) L 0).2 (c + 1) (t + 1) f g st (by omega) u2 u1 (by omega) (by omega) with ⟨a1, a2⟩ | ⟨L', c', t', a1, a2, a3, a4, a5, a6⟩
          · exact Or.inl ⟨eC.trans a1, eM.trans a2⟩
          · exact Or.inr ⟨L', c', t', eC.trans a1, eM.trans a2, a3, by omega, fun d dl h => dvs_trans dl d2 (by omega) hL13 (by omega) (a5 d dl h) u4, a6⟩
      · have c2' : ¬ nI (dv Q b (13 - b) L 0).1 = 0 := fun h => c2 ((z32 (by omega)).mp h)
        refine Or.inr ⟨L, c, nI t, ?_, ?_, h0, Nat.le_refl L, fun d _ h => h, Or.inr (fun h => c2 (d4.mpr h))⟩
        · rw [q_X4_factorOf_L43, if_neg s1, if_neg c1', y1, Option.bind_some, y2, if_neg c2']
        · rw [q_X12_factor_L52, if_neg c1', m1, Option.bind_some, if_pos c2']
/-- the reference, where what is left has no factor but itself -/
theorem irrM (ix : Int32) {L : Nat} (hL : L < 2 ^ 13) (h2 : 2 ≤ L) (hn : ∀ d, 2 ≤ d → d < L → ¬ dvs d L) (c : Nat) (st : Int32) : ∀ j b g, b + j = L → 2 ≤ b → j + 1 < g → q_X12_factor_L47 ix g (nI L) (nI c) (nI b) st = if nI c = ix then some (Sum.inr (nI L, 0)) else some (Sum.inl (nI 1, nI (c + 1), nI (L + 1), st)) := by
  have c1' : ¬ nI L ≤ (1 : Int32) := fun q => by have := (le1 (by omega)).mp q; omega
  intro j
  induction j with
  | zero =>
    intro b g hb b2 hg
    have e : b = L := by omega
    subst e
    obtain ⟨g, rfl⟩ : ∃ f, g = f + 1 + 1 := ⟨g - 2, by omega⟩
    obtain ⟨l1, l2⟩ := lg2 (show b ≠ 0 by omega)
    have l3 : b.log2 < 13 := lg12 (by omega) hL
    have l4 : 1 ≤ b.log2 := (Nat.le_log2 (by omega)).mpr b2
    obtain ⟨m1, m2⟩ := divM l1 l2 (by omega) hL
    obtain ⟨d1, d2, d3, d4⟩ := dv_small l1 l2 (by omega) hL
    have z := d4.mpr (dvs_self hL)
    obtain ⟨u1, u2, u3, u4⟩ := dv_quot (k := b.log2) l1 l2 l4 (by omega) hL (by omega) l2 z
    have d2 : (dv b b.log2 (13 - b.log2) b 0).2 < 2 ^ 13 := Nat.lt_of_lt_of_le d2 (Nat.pow_le_pow_right (by decide) (by omega))
    have u : (dv b b.log2 (13 - b.log2) b 0).2 = 1 := by
      generalize (dv b b.log2 (13 - b.log2) b 0).2 = U at *
      obtain ⟨a1, a2⟩ := lg2 (show U ≠ 0 by omega)
      obtain ⟨e1, -⟩ := cm_deg a1 a2 l1 l2 (lg12 (by omega) d2)
      rw [← u4] at e1
      have : U.log2 + b.log2 < b.log2 + 1 := (Nat.pow_lt_pow_iff_right (by decide)).mp (Nat.lt_of_le_of_lt e1 l2)
      have h0 : U.log2 = 0 := by omega
      rw [h0] at a2
      omega
    have e52 : q_X12_factor_L52 ix (nI b) 10000 (nI b) (nI c) st = if ¬ nI c = ix then some (Sum.inl (nI 1, nI (c + 1), st)) else some (Sum.inr (nI b, 0)) := by
      rw [q_X12_factor_L52, if_neg c1', m1, Option.bind_some, z, if_neg (show ¬ ¬ nI 0 = 0 from fun h => h rfl), m2, Option.bind_some, u, nI_1, q_X12_factor_L52, if_pos (show nI 1 ≤ 1 by decide)]
      rfl
    rw [q_X12_factor_L47, if_neg c1', e52]
    by_cases c3 : nI c = ix
    · rw [if_neg (fun h => h c3), if_pos c3]
      rfl
    · rw [if_pos c3, if_neg c3]
      show q_X12_factor_L47 ix (g + 1) (nI 1) (nI (c + 1)) (nI b + 1) st = _
      rw [q_X12_factor_L47, if_pos (show nI 1 ≤ 1 by decide), nI_1]
  | succ j ih =>
    intro b g hb b2 hg
    obtain ⟨g, rfl⟩ : ∃ f, g = f + 1 := ⟨g - 1, by omega⟩
    obtain ⟨l1, l2⟩ := lg2 (show b ≠ 0 by omega)
    have l3 : b.log2 < 13 := lg12 (by omega) (by omega)
    obtain ⟨m1, -⟩ := divM l1 l2 (by omega) hL
    obtain ⟨d1, -, -, d4⟩ := dv_small l1 l2 (by omega) hL
    have d1 : (dv b b.log2 (13 - b.log2) L 0).1 < 2 ^ 12 := Nat.lt_of_lt_of_le d1 (Nat.pow_le_pow_right (by decide) (by omega))
    have z : ¬ nI (dv b b.log2 (13 - b.log2) L 0).1 = 0 := fun h => hn b b2 (by omega) (d4.mp ((z32 (by omega)).mp h))
    have e52 : q_X12_factor_L52 ix (nI b) 10000 (nI L) (nI c) st = some (Sum.inl (nI L, nI c, st)) := by
      rw [q_X12_factor_L52, if_neg c1', m1, Option.bind_some, if_pos z]
    rw [q_X12_factor_L47, if_neg c1', e52]
    show q_X12_factor_L47 ix g (nI L) (nI c) (nI b + 1) st = _
    rw [nI_1]
    exact ih (b + 1) g (by omega) (by omega) (by omega)
theorem outF (ix : Int32) {P : Nat} (hP : P < 2 ^ 13) : ∀ m L c b f g (st : Int32), b + m = 8193 → 2 ≤ b → 1 ≤ L → L ≤ P → (∀ d, 2 ≤ d → d < b → ¬ dvs d L) → m + 1 < f → m + 1 < g →
    (∃ v, 2 ≤ v ∧ v < 2 ^ 13 ∧ q_X4_factorOf_L7 (nI P) ix f (nI L) (nI c) (nI b) = some (Sum.inr (nI v)) ∧ q_X12_factor_L47 ix g (nI L) (nI c) (nI b) st = some (Sum.inr (nI v, 0))) ∨
    ((∃ z, q_X4_factorOf_L7 (nI P) ix f (nI L) (nI c) (nI b) = some (Sum.inl z)) ∧ ∃ z, q_X12_factor_L47 ix g (nI L) (nI c) (nI b) st = some (Sum.inl z)) := by
  intro m
  induction m with
  | zero =>
    intro L c b f g st hm b2 h0 hLP hn hf hg
    obtain ⟨f, rfl⟩ : ∃ g, f = g + 1 := ⟨f - 1, by omega⟩
    obtain ⟨g, rfl⟩ : ∃ f, g = f + 1 := ⟨g - 1, by omega⟩
    by_cases c1 : L ≤ 1
    · exact Or.inr ⟨⟨_, by rw [q_X4_factorOf_L7, if_pos ((le1 (by omega)).mpr c1)]⟩, ⟨_, by rw [q_X12_factor_L47, if_pos ((le1 (by omega)).mpr c1)]⟩⟩
    · exact absurd (dvs_self (show L < 2 ^ 13 by omega)) (hn L (by omega) (by omega))
  | succ m ih =>
    intro L c b f g st hm b2 h0 hLP hn hf hg
    by_cases c1 : L ≤ 1
    · obtain ⟨f, rfl⟩ : ∃ g, f = g + 1 := ⟨f - 1, by omega⟩
      obtain ⟨g, rfl⟩ : ∃ f, g = f + 1 := ⟨g - 1, by omega⟩
      exact Or.inr ⟨⟨_, by rw [q_X4_factorOf_L7, if_pos ((le1 (by omega)).mpr c1)]⟩, ⟨_, by rw [q_X12_factor_L47, if_pos ((le1 (by omega)).mpr c1)]⟩⟩
    · have c1' : ¬ nI L ≤ (1 : Int32) := fun q => c1 ((le1 (by omega)).mp q)
      have hL : L < 2 ^ 13 := by omega
      have hbL : b ≤ L := Nat.le_of_not_lt (fun q => hn L (by omega) q (dvs_self hL))
      obtain ⟨l1, l2⟩ := lg2 (show b ≠ 0 by omega)
      obtain ⟨k1, k2⟩ := lg2 (show L ≠ 0 by omega)
      have l3 : b.log2 < 13 := lg12 (by omega) (by omega)
      have k3 : L.log2 < 13 := lg12 (by omega) (by omega)
      have l4 : 1 ≤ b.log2 := (Nat.le_log2 (by omega)).mpr b2
      have k4 : 1 ≤ L.log2 := (Nat.le_log2 (by omega)).mpr (by omega)
      have eb : dgI b = nI b.log2 := log_of l1 l2
      have eL : dgI L = nI L.log2 := log_of k1 k2
      have gP : ¬ nI P < nI b := fun q => by have := (nI_ltI (by omega) (by omega)).mp q; omega
      obtain ⟨f, rfl⟩ : ∃ g, f = g + 1 := ⟨f - 1, by omega⟩
      have e2 : (2 : Int32) * nI b.log2 = nI (2 * b.log2) := nI_mul 2 _
      have eC : q_X4_factorOf_L7 (nI P) ix (f + 1) (nI L) (nI c) (nI b) = xlp (q_X4_factorOf_L43 ix (if nI (2 * b.log2) ≤ nI L.log2 then nI b else nI L) 10000 (nI L) (nI c) 0) (fun y3 => (q_X4_factorOf_L7 (nI P) ix f y3.1 y3.2.1 (nI (b + 1)))) (fun y3 => (some (Sum.inr y3))) := by
        rw [q_X4_factorOf_L7, if_neg c1', if_neg gP, smD (by omega), Option.bind_some, smD (by omega), Option.bind_some, eb, eL, e2, nI_1]
      by_cases c2 : 2 * b.log2 ≤ L.log2
      · obtain ⟨g, rfl⟩ : ∃ f, g = f + 1 := ⟨g - 1, by omega⟩
        rw [if_pos (nI_le c2 (by omega))] at eC
        have eM : q_X12_factor_L47 ix (g + 1) (nI L) (nI c) (nI b) st = xlp (q_X12_factor_L52 ix (nI b) 10000 (nI L) (nI c) st) (fun y1 => (q_X12_factor_L47 ix g y1.1 y1.2.1 (nI (b + 1)) y1.2.2)) (fun y1 => (some (Sum.inr (y1.1, y1.2)))) := by
          rw [q_X12_factor_L47, if_neg c1', nI_1]
        rcases innF ix l1 l2 l4 (by omega) 12 L c 0 10000 10000 st (by omega) hL h0 (by omega) (by omega) with ⟨a1, a2⟩ | ⟨L', c', t', a1, a2, a3, a4, a5, a6⟩
        · refine Or.inl ⟨b, b2, by omega, ?_, ?_⟩
          · rw [eC]
            have a1 : q_X4_factorOf_L43 ix (nI b) 10000 (nI L) (nI c) 0 = _ := a1
            rw [a1]
            rfl
          · rw [eM, a2]
            rfl
        · have a1 : q_X4_factorOf_L43 ix (nI b) 10000 (nI L) (nI c) 0 = _ := a1
          have hn' : ∀ d, 2 ≤ d → d < b + 1 → ¬ dvs d L' := by
            intro d d2 db hd
            by_cases e : d = b
            · rw [e] at hd
              rcases a6 with q | q
              · obtain ⟨x, x1, x2⟩ := hd
                have hx0 : x ≠ 0 := by
                  intro z
                  rw [z, cm_0] at x2
                  omega
                obtain ⟨y1, y2⟩ := lg2 hx0
                obtain ⟨z1, -⟩ := cm_deg y1 y2 l1 l2 (lg12 hx0 x1)
                rw [← x2, q] at z1
                have : 2 ^ 1 ≤ 2 ^ (x.log2 + b.log2) := Nat.pow_le_pow_right (by decide) (by omega)
                omega
              · exact q hd
            · exact hn d d2 (by omega) (a5 d (by omega) hd)
          rcases ih L' c' (b + 1) f g st (by omega) (by omega) a3 (by omega) hn' (by omega) (by omega) with ⟨v, v1, v2, v3, v4⟩ | ⟨v3, v4⟩
          · refine Or.inl ⟨v, v1, v2, ?_, ?_⟩
            · rw [eC, a1]; exact v3
            · rw [eM, a2]; exact v4
          · refine Or.inr ⟨?_, ?_⟩
            · rw [eC, a1]; exact v3
            · rw [eM, a2]; exact v4
      · have hi := irr hL (by omega) l1 (by omega) hn
        rw [if_neg (nI_ge (by omega) (by omega))] at eC
        have eM := irrM ix hL (by omega) hi c st (L - b) b g (by omega) b2 (by omega)
        obtain ⟨y, y1, y2, y3⟩ := sdivC k1 k2 (by omega) hL
        obtain ⟨-, d2, -, d4⟩ := dv_small k1 k2 (by omega) hL
        have z := d4.mpr (dvs_self hL)
        obtain ⟨u1, u2, u3, u4⟩ := dv_quot (k := L.log2) k1 k2 k4 (by omega) hL h0 k2 z
        have d2 : (dv L L.log2 (13 - L.log2) L 0).2 < 2 ^ 13 := Nat.lt_of_lt_of_le d2 (Nat.pow_le_pow_right (by decide) (by omega))
        have u : (dv L L.log2 (13 - L.log2) L 0).2 = 1 := by
          generalize (dv L L.log2 (13 - L.log2) L 0).2 = U at *
          obtain ⟨a1, a2⟩ := lg2 (show U ≠ 0 by omega)
          obtain ⟨e1, -⟩ := cm_deg a1 a2 k1 k2 (lg12 (by omega) d2)
          rw [← u4] at e1
          have : U.log2 + L.log2 < L.log2 + 1 := (Nat.pow_lt_pow_iff_right (by decide)).mp (Nat.lt_of_le_of_lt e1 k2)
          have h0 : U.log2 = 0 := by omega
          rw [h0] at a2
          omega
        rw [z] at y2
        rw [u] at y3
        have e43 : q_X4_factorOf_L43 ix (nI L) 10000 (nI L) (nI c) 0 = if ¬ nI c = ix then some (Sum.inl (nI 1, nI (c + 1), 1)) else some (Sum.inr (nI L)) := by
          rw [q_X4_factorOf_L43, if_neg (show ¬ (12 : Int32) ≤ 0 by decide), if_neg c1', y1, Option.bind_some, y2, if_pos (show nI 0 = 0 from rfl), y3, nI_1, q_X4_factorOf_L43, if_neg (show ¬ (12 : Int32) ≤ 0 + 1 by decide), if_pos (show nI 1 ≤ 1 by decide)]
          rfl
        rw [e43] at eC
        by_cases c3 : nI c = ix
        · rw [if_neg (fun h => h c3)] at eC
          rw [if_pos c3] at eM
          exact Or.inl ⟨L, by omega, hL, eC, eM⟩
        · rw [if_pos c3] at eC
          rw [if_neg c3] at eM
          refine Or.inr ⟨?_, _, eM⟩
          obtain ⟨f, rfl⟩ : ∃ g, f = g + 1 := ⟨f - 1, by omega⟩
          have eC : q_X4_factorOf_L7 (nI P) ix (f + 1 + 1) (nI L) (nI c) (nI b) = q_X4_factorOf_L7 (nI P) ix (f + 1) (nI 1) (nI (c + 1)) (nI (b + 1)) := eC
          exact ⟨_, by rw [eC, q_X4_factorOf_L7, if_pos (show nI 1 ≤ 1 by decide)]⟩
theorem no1 {d : Nat} (h : 2 ≤ d) : ¬ d < 2 := by omega
theorem M_20 : MS_20 := by
  intro S l4 a10 a11 c12_0 c12_1 a66 a53 c48_23 c1_1 a2 c48_17 a49 c3_1 c3_2 c4_0 a5 a6 c48_20 a52 c8_0 c8_1 c8_2 c8_3 c8_4 c8_5 c48_24 c48_25 c48_26 c48_27 c48_28 c7_0 c7_1 c7_2 c7_3 c7_4 c7_5 c17_1 a18 c48_21 a57 c23_4 c24_0 a25 a26 c48_22 a58 a22 x1 x2 x3 x4 x5 hB hP hK h7 hS hD hW hC
  unfold q_case20
  generalize S.2 (l4 + (1 : Int32)).toNatClampNeg = p1
  generalize S.2 (l4 + (2 : Int32)).toNatClampNeg = p2
  rcases cls p1 (n := 8) (by omega) with ⟨s, hs, rfl⟩ | hF
  · obtain ⟨P, hP, b1, b2, b3⟩ := hS s hs
    have b1 : a10 s = pL P := b1
    have b2 : a11 s = pH P := b2
    by_cases c : P ≠ 0 ∧ 1 ≤ P.log2 ∧ P.log2 ≤ 12
    · obtain ⟨h0, g1, g2⟩ := c
      have e : dgI P = nI P.log2 := if_neg h0
      have hl : P < 2 ^ (P.log2 + 1) := Nat.lt_log2_self
      have h13 : P < 2 ^ 13 := Nat.lt_of_lt_of_le hl (Nat.pow_le_pow_right (by decide) (by omega))
      have ei : t_X12_in (dgI P).toInt64 1 12 = 1 := by
        rw [e]
        exact in_T (by rw [tl, nI_toInt (by omega)]; show (1 : Int) ≤ _; omega) (by rw [tl, nI_toInt (by omega)]; show _ ≤ (12 : Int); omega)
      have em := smallT (x := c12_0) (y := c12_1) hs hP b1 b2 h0 g1 g2
      rcases outF p2 h13 8191 P 0 2 10000 10000 c48_23 (by omega) (by omega) (by omega) (Nat.le_refl P) (fun d d2 d3 => absurd d3 (no1 d2)) (by omega) (by omega) with ⟨v, v1, v2, v3, v4⟩ | ⟨⟨z, v3⟩, z', v4⟩
      · have v3 : q_X4_factorOf_L7 (nI P) p2 10000 (nI P) 0 2 = _ := v3
        have v4 : q_X12_factor_L47 p2 10000 (nI P) 0 2 c48_23 = _ := v4
        have e1 : q_X11_factor (nI s) p2 a10 a11 c12_0 c12_1 = some (.inr (nI v), (pL P, pH P)) := by
          unfold q_X11_factor q_X4_factorOf
          rw [em]
          simp only [xbnd, v3, xlp, Option.bind_some]
          rw [if_pos (nz (show ¬ v = 0 by omega) (by omega))]
        have e2 : q_X12_factor (nI s) p2 a53 c48_23 = some (nI v, 0) := by
          unfold q_X12_factor
          rw [msT hs, ite10, degM hs hP b3, Option.bind_some, ei, ite10, numM hs h13 b3, Option.bind_some, v4]
          rfl
        simp only [x1, x2, if_true, q_L_factor, e1, xbnd, Option.bind_some, e2, t_X12_thrown, ite00, c0, updL_eq, lgs]
        exact ⟨_, rfl⟩
      · have v3 : q_X4_factorOf_L7 (nI P) p2 10000 (nI P) 0 2 = _ := v3
        have v4 : q_X12_factor_L47 p2 10000 (nI P) 0 2 c48_23 = _ := v4
        have e1 : q_X11_factor (nI s) p2 a10 a11 c12_0 c12_1 = some (.inl 3, (pL P, pH P)) := by
          unfold q_X11_factor q_X4_factorOf
          rw [em]
          simp only [xbnd, v3, xlp, Option.bind_some]
          rfl
        have e2 : q_X12_factor (nI s) p2 a53 c48_23 = some (0, 3) := by
          unfold q_X12_factor
          rw [msT hs, ite10, degM hs hP b3, Option.bind_some, ei, ite10, numM hs h13 b3, Option.bind_some, v4]
          rfl
        simp only [x1, x2, if_true, q_L_factor, e1, xbnd, Option.bind_some, e2, t_X12_thrown]
        exact ⟨_, rfl⟩
    · obtain ⟨f1, f2⟩ := smallF (x := c12_0) (y := c12_1) hs hP b1 b2 c
      have e1 : q_X11_factor (nI s) p2 a10 a11 c12_0 c12_1 = some (.inl 5, (pL P, pH P)) := by
        unfold q_X11_factor
        rw [f1]; rfl
      have e2 : q_X12_factor (nI s) p2 a53 c48_23 = some (0, 2) := by
        unfold q_X12_factor
        rw [msT hs, ite10, degM hs hP b3, Option.bind_some, f2, ite00]
        rfl
      simp only [x1, x2, if_true, q_L_factor, e1, xbnd, Option.bind_some, e2, t_X12_thrown]
      exact ⟨_, rfl⟩
  · have e1 : q_X11_factor p1 p2 a10 a11 c12_0 c12_1 = some (.inl 2, (c12_0, c12_1)) := by
      unfold q_X11_factor
      rw [smallB hF]; rfl
    have e2 : q_X12_factor p1 p2 a53 c48_23 = some (0, 1) := by
      unfold q_X12_factor
      rw [msF hF, ite00]
      rfl
    simp only [x1, x2, if_true, q_L_factor, e1, xbnd, Option.bind_some, e2, t_X12_thrown]
    exact ⟨_, rfl⟩

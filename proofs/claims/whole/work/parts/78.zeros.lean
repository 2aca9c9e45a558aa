/-! The call zeros. -/
def tm (w p a b : Nat) : Nat → Nat → Nat
  | 0, r => r
  | k + 1, r => tm w p a b k (if b.testBit k = true then kT w p r ^^^ a else kT w p r)
def tmw (w p a b : Nat) : Nat := tm w p a b w 0
def pz (w p : Nat) : Nat → Nat → Nat → Nat → Nat
  | 0, _, r, _ => r
  | f + 1, n, r, z => if n = 0 then r else pz w p f (n / 2) (if n % 2 = 1 then tmw w p r z else r) (tmw w p z z)
theorem tm_lt {w p a b : Nat} (hp : p < 2 ^ w) (ha : a < 2 ^ w) : ∀ k r, r < 2 ^ w → tm w p a b k r < 2 ^ w := by
  intro k
  induction k with
  | zero => intro r h; exact h
  | succ k ih =>
    intro r _
    refine ih _ ?_
    split
    · exact Nat.xor_lt_two_pow (kT_lt hp) ha
    · exact kT_lt hp
theorem tmw_lt {w p a b : Nat} (hp : p < 2 ^ w) (ha : a < 2 ^ w) : tmw w p a b < 2 ^ w := tm_lt hp ha w 0 (Nat.two_pow_pos w)
theorem pz_lt {w p : Nat} (hp : p < 2 ^ w) : ∀ f n r z, r < 2 ^ w → z < 2 ^ w → pz w p f n r z < 2 ^ w := by
  intro f
  induction f with
  | zero => intro n r z h _; exact h
  | succ f ih =>
    intro n r z h1 h2
    rw [pz]
    split
    · exact h1
    · refine ih _ _ _ ?_ (tmw_lt hp h2)
      split
      · exact tmw_lt hp h1
      · exact h1
theorem timesI {w p a b : Nat} (h1 : 1 ≤ w) (h : w ≤ 32) (hp : p < 2 ^ w) (ha : a < 2 ^ w) (hb : b < 2 ^ w) : q_X1_times (nI a) (nI b) (nI w) (nI p) = some (nI (tmw w p a b)) := by
  have hw := pow_le h
  have key : ∀ k f r, k ≤ w → k < f → r < 2 ^ w → ∃ x : Int32 × Int32, q_X1_times_L10 (nI a) (nI b) (nI w) (nI p) f (nI r) (nI k + (-1)) = some x ∧ x.1 = nI (tm w p a b k r) := by
    intro k
    induction k with
    | zero =>
      intro f r _ hf _
      obtain ⟨f, rfl⟩ : ∃ g, f = g + 1 := ⟨f - 1, by omega⟩
      exact ⟨_, by rw [q_X1_times_L10, if_pos (by decide)], rfl⟩
    | succ k ih =>
      intro f r hk hf hr
      obtain ⟨f, rfl⟩ : ∃ g, f = g + 1 := ⟨f - 1, by omega⟩
      have e : (if (xus (nI b) (nI k)) &&& 1 = 0 then t_X1_timesZ (nI r) (nI w) (nI p) else (t_X1_timesZ (nI r) (nI w) (nI p)) ^^^ nI a) = nI (if b.testBit k = true then kT w p r ^^^ a else kT w p r) := by
        rw [nI_xus (by omega) (by omega), k1, nI_and, and1, tb_div, timesZI h1 h hr, nI_xor]
        cases b.testBit k with
        | true => rw [if_neg (show ¬ nI true.toNat = 0 by decide), if_pos rfl]
        | false => rw [if_pos (show nI false.toNat = 0 from rfl), if_neg (by decide)]
      rw [nI_m1 (by omega), show k + 1 - 1 = k by omega, q_X1_times_L10, if_neg (nI_pos (by omega)), e]
      refine ih f _ (by omega) (by omega) ?_
      split
      · exact Nat.xor_lt_two_pow (kT_lt hp) ha
      · exact kT_lt hp
  obtain ⟨x, e1, e2⟩ := key w 10000 0 (Nat.le_refl w) (by omega) (Nat.two_pow_pos w)
  unfold q_X1_times tmw
  have e3 : nI w - 1 = nI w + (-1) := by rw [nI_pred' h1, nI_m1 h1]
  rw [e3]
  show Option.bind (q_X1_times_L10 (nI a) (nI b) (nI w) (nI p) 10000 (nI 0) (nI w + -1)) _ = _
  rw [e1, Option.bind_some, e2]
theorem timesL {w p a b : Nat} (h1 : 1 ≤ w) (h : w ≤ 32) (hp : p < 2 ^ w) (ha : a < 2 ^ w) (hb : b < 2 ^ w) : q_X12_times (lN a) (lN b) (nI w) (lN p) = some (lN (tmw w p a b)) := by
  have hw := pow_le h
  have key : ∀ k f r, k ≤ w → k < f → r < 2 ^ w → ∃ x : Int64 × Int32, q_X12_times_L11 (lN a) (lN b) (nI w) (lN p) f (lN r) (nI k + (-1)) = some x ∧ x.1 = lN (tm w p a b k r) := by
    intro k
    induction k with
    | zero =>
      intro f r _ hf _
      obtain ⟨f, rfl⟩ : ∃ g, f = g + 1 := ⟨f - 1, by omega⟩
      exact ⟨_, by rw [q_X12_times_L11, if_pos (by decide)], rfl⟩
    | succ k ih =>
      intro f r hk hf hr
      obtain ⟨f, rfl⟩ : ∃ g, f = g + 1 := ⟨f - 1, by omega⟩
      have e : (t_X12_moved (lN r) (nI w) (lN p) ^^^ (if ¬ lg_cmp ((xul (lN b) (nI k)) &&& 1) 1 = 0 then 0 else lN a)) = lN (if b.testBit k = true then kT w p r ^^^ a else kT w p r) := by
        rw [lN_xul (by omega) (by omega), show (1 : Int64) = lN 1 from rfl, lN_and, and1, tb_div, movedL h1 h hr]
        cases b.testBit k with
        | true => rw [if_neg (show ¬ ¬ lg_cmp (lN true.toNat) (lN 1) = 0 from fun h => h (lgs _)), if_pos rfl, lN_xor]
        | false => rw [if_pos (show ¬ lg_cmp (lN false.toNat) (lN 1) = 0 by decide), if_neg (by decide), Int64.xor_zero]
      rw [nI_m1 (by omega), show k + 1 - 1 = k by omega, q_X12_times_L11, if_neg (nI_pos (by omega)), e]
      refine ih f _ (by omega) (by omega) ?_
      split
      · exact Nat.xor_lt_two_pow (kT_lt hp) ha
      · exact kT_lt hp
  obtain ⟨x, e1, e2⟩ := key w 10000 0 (Nat.le_refl w) (by omega) (Nat.two_pow_pos w)
  unfold q_X12_times tmw
  have e3 : nI w - 1 = nI w + (-1) := by rw [nI_pred' h1, nI_m1 h1]
  rw [e3]
  show Option.bind (q_X12_times_L11 (lN a) (lN b) (nI w) (lN p) 10000 (lN 0) (nI w + -1)) _ = _
  rw [e1, Option.bind_some, e2]
theorem powI {w p r n : Nat} (h1 : 1 ≤ w) (h : w ≤ 32) (hp : p < 2 ^ w) (hr : r < 2 ^ w) (hn : n < 2 ^ 31) : q_X1_timesPowerOfZ (nI r) (nI n) (nI w) (nI p) = some (nI (pz w p 31 n r (kT w p 1))) := by
  have key : ∀ k f i r z, k + i = 31 → k < f → r < 2 ^ w → z < 2 ^ w → ∃ x : Int32 × Int32 × Int32, q_X1_timesPowerOfZ_L12 (nI n) (nI w) (nI p) f (nI r) (nI z) (nI i) = some x ∧ x.1 = nI (pz w p k (n / 2 ^ i) r z) := by
    intro k
    induction k with
    | zero =>
      intro f i r z hk hf _ _
      obtain ⟨f, rfl⟩ : ∃ g, f = g + 1 := ⟨f - 1, by omega⟩
      exact ⟨_, by rw [q_X1_timesPowerOfZ_L12, if_pos (show (31 : Int32) ≤ nI i from nI_le (a := 31) (by omega) (by omega))], rfl⟩
    | succ k ih =>
      intro f i r z hk hf hr hz
      obtain ⟨f, rfl⟩ : ∃ g, f = g + 1 := ⟨f - 1, by omega⟩
      have hd : n / 2 ^ i ≤ n := Nat.div_le_self _ _
      rw [q_X1_timesPowerOfZ_L12, if_neg (show ¬ (31 : Int32) ≤ nI i from nI_ge (b := 31) (by omega) (by decide)), nI_xus (by omega) (by omega), pz, k1, nI_and, and1]
      by_cases c : n / 2 ^ i = 0
      · rw [c, if_pos (show nI 0 = 0 from rfl), if_pos rfl]
        exact ⟨_, rfl, rfl⟩
      · rw [if_neg (show ¬ nI (n / 2 ^ i) = 0 from ne_of_nI (b := 0) c (by omega) (by decide)), if_neg c]
        have e2 : n / 2 ^ i / 2 = n / 2 ^ (i + 1) := by rw [Nat.div_div_eq_div_mul, Nat.pow_succ]
        have hsq := tmw_lt (b := z) hp hz
        by_cases o : n / 2 ^ i % 2 = 1
        · rw [o, if_neg (show ¬ nI 1 = 0 by decide), if_pos rfl, timesI h1 h hp hr hz, Option.bind_some, timesI h1 h hp hz hz, Option.bind_some, nI_add, e2]
          exact ih f (i + 1) _ _ (by omega) (by omega) (tmw_lt hp hr) hsq
        · rw [show n / 2 ^ i % 2 = 0 by omega, if_pos (show nI 0 = 0 from rfl), if_neg (by decide), timesI h1 h hp hz hz, Option.bind_some, nI_add, e2]
          exact ih f (i + 1) _ _ (by omega) (by omega) hr hsq
  have h1w : 1 < 2 ^ w := Nat.one_lt_two_pow (by omega)
  obtain ⟨x, e1, e2⟩ := key 31 10000 0 r (kT w p 1) (by omega) (by omega) hr (kT_lt hp)
  rw [Nat.pow_zero, Nat.div_one] at e2
  unfold q_X1_timesPowerOfZ
  have e3 : t_X1_timesZ 1 (nI w) (nI p) = nI (kT w p 1) := timesZI (r := 1) h1 h h1w
  rw [e3]
  show Option.bind (q_X1_timesPowerOfZ_L12 (nI n) (nI w) (nI p) 10000 (nI r) (nI (kT w p 1)) (nI 0)) _ = _
  rw [e1, Option.bind_some, e2]
theorem nI_half {n : Nat} (h : n < 2147483648) : nI n >>> ((1 : Int32) &&& 31) = nI (n / 2) := nI_of_bv (by
  rw [show ((1 : Int32) &&& 31) = 1 by decide, Int32.toBitVec_shiftRight, nI_bv]
  apply BitVec.eq_of_toInt_eq
  rw [show (1 : Int32).toBitVec.smod 32 = 1#32 by decide]
  show (BitVec.sshiftRight _ _).toInt = _
  rw [BitVec.toInt_sshiftRight, show (1#32).toNat = 1 from rfl, Int.shiftRight_eq_div_pow]
  show (nI n).toInt / ((2 ^ 1 : Nat) : Int) = (nI (n / 2)).toInt
  rw [nI_toInt h, nI_toInt (by omega)]
  omega)
theorem powL {w p r n : Nat} (h1 : 1 ≤ w) (h : w ≤ 32) (hp : p < 2 ^ w) (hr : r < 2 ^ w) (hn : n < 2 ^ 31) : ∃ x : Int64 × Int64 × Int32, q_X12_zeros_L69 (nI w) (lN p) 10000 (lN r) (lN (kT w p 1)) (nI n) = some x ∧ x.1 = lN (pz w p 31 n r (kT w p 1)) := by
  have key : ∀ k f n r z, n < 2 ^ k → k ≤ 31 → k < f → r < 2 ^ w → z < 2 ^ w → ∃ x : Int64 × Int64 × Int32, q_X12_zeros_L69 (nI w) (lN p) f (lN r) (lN z) (nI n) = some x ∧ x.1 = lN (pz w p k n r z) := by
    intro k
    induction k with
    | zero =>
      intro f n r z hn _ hf _ _
      obtain ⟨f, rfl⟩ : ∃ g, f = g + 1 := ⟨f - 1, by omega⟩
      have : n = 0 := by omega
      subst this
      exact ⟨_, by rw [q_X12_zeros_L69, if_pos (by decide)], rfl⟩
    | succ k ih =>
      intro f n r z hn hk hf hr hz
      obtain ⟨f, rfl⟩ : ∃ g, f = g + 1 := ⟨f - 1, by omega⟩
      have h31 : 2 ^ (k + 1) ≤ 2 ^ 31 := Nat.pow_le_pow_right (by decide) hk
      rw [q_X12_zeros_L69, pz]
      by_cases c : n = 0
      · subst c
        rw [if_pos (show nI 0 ≤ 0 by decide), if_pos rfl]
        exact ⟨_, rfl, rfl⟩
      · have hh : n / 2 < 2 ^ k := by rw [Nat.pow_succ] at hn; omega
        have hsq := tmw_lt (b := z) hp hz
        rw [if_neg (show ¬ nI n ≤ 0 by rw [leI, nI_toInt (by omega), i0]; omega), if_neg c, nI_half (by omega), show (1 : Int32) = nI 1 from rfl, nI_and, and1]
        by_cases o : n % 2 = 1
        · rw [o, if_neg (show ¬ ¬ nI 1 = nI 1 from fun h => h rfl), if_pos rfl, timesL h1 h hp hr hz, Option.bind_some, timesL h1 h hp hz hz, Option.bind_some]
          exact ih f _ _ _ hh (by omega) (by omega) (tmw_lt hp hr) hsq
        · rw [show n % 2 = 0 by omega, if_pos (show ¬ nI 0 = nI 1 by decide), if_neg (by decide), timesL h1 h hp hz hz, Option.bind_some]
          exact ih f _ _ _ hh (by omega) (by omega) hr hsq
  exact key 31 10000 n r _ hn (by omega) (by omega) hr (kT_lt hp)
theorem mir_mir {r w : Nat} (hr : r < 2 ^ w) : mir (mir r w) w = r := by
  apply Nat.eq_of_testBit_eq
  intro i
  rw [mir_bit, mir_bit]
  by_cases c : i < w
  · rw [decide_eq_true c, decide_eq_true (show w - 1 - i < w by omega), Bool.true_and, Bool.true_and]; congr 1; omega
  · rw [decide_eq_false c, Bool.false_and, Nat.testBit_lt_two_pow (Nat.lt_of_lt_of_le hr (Nat.pow_le_pow_right (by decide) (by omega)))]
theorem xor_cancel (a b : Nat) : a ^^^ b ^^^ b = a := by rw [Nat.xor_assoc, Nat.xor_self, Nat.xor_zero]
/-- from a sum back to its register -/
theorem backI {w e mo r : Nat} (h : w ≤ 32) (hmo : mo < 2) (hr : r < 2 ^ w) (he : e < 2 ^ w) : q_X1_registerOfSum (lN (outS w mo e r)) (nI w) (nI e) (nI mo) = some (nI r) := by
  have hw := pow_le h
  unfold q_X1_registerOfSum
  rw [lN_i, nI_xor]
  unfold outS
  rw [xor_cancel]
  by_cases c : mo = 0
  · subst c
    rw [if_pos (show nI 0 = 0 from rfl), if_pos rfl]
  · have hm := mir_lt r w
    rw [if_neg (show ¬ nI mo = 0 from ne_of_nI (b := 0) c (by omega) (by decide)), if_neg c, mirI (by omega) h, Option.bind_some, mir_mir hr]
theorem sumR {w r e mo : Nat} (h : w ≤ 32) (hr : r < 2 ^ w) (he : e < 2 ^ w) (hmo : mo < 2) : q_X1_sumOfRegister (nI r) (nI w) (nI e) (nI mo) = some (lN (outS w mo e r)) := by
  rcases sumOfR (mo := mo) h hr he with e1 | e1
  · exact e1
  · exact absurd hmo e1
theorem M_12 : MS_12 := by
  intro S l4 c1_1 c8_0 c8_1 c8_2 c8_3 c8_4 c8_5 a2 a66 c48_17 c48_18 c48_24 c48_25 c48_26 c48_27 c48_28 a49 a50 c3_1 c3_2 c4_0 a5 a6 c48_20 a52 c7_0 c7_1 c7_2 c7_3 c7_4 c7_5 a10 a11 a53 c17_1 a18 c48_21 a57 c23_4 c24_0 a25 a26 c48_22 a58 a22 x1 x2 x3 x4 x5 hB hP hK h7 hS hD hW hC
  obtain ⟨w, p, s, e, m, h1, h, hp, -, hs, he, hm, rfl, rfl, rfl, rfl, rfl, rfl, rfl, rfl, rfl, rfl, rfl⟩ := hK
  obtain ⟨n, B, hn, rfl, rfl, hb⟩ := hB
  unfold q_case12
  generalize S.2 (l4 + (1 : Int32)).toNatClampNeg = p1
  rcases cls p1 (n := 1000001) (by omega) with ⟨k, hk, rfl⟩ | hF
  · have e1 := sumI h1 h hp hs he (mi := m % 2) (mo := m / 2) (by omega) (by omega) (Nat.zero_le n) hn (B := B) (a2 := a2) (fun k hk => ⟨(hb k hk).1, (hb k hk).2.1⟩)
    rw [Nat.sub_zero] at e1
    have e1 : q_X1_sumOf 0 (nI n) (nI w) (nI p) (nI s) (nI e) (nI (m % 2)) (nI (m / 2)) a2 = _ := e1
    obtain ⟨g, g1, g2, -⟩ := layM (a49 := a49) (a50 := a50) (Nat.zero_le n) hn
    rw [Nat.sub_zero] at g1 g2
    have g1 : q_X12_lay 0 (nI n) a49 a50 = _ := g1
    have hl := reg_lt (mi := m % 2) (B := B) (a := 0) hp hs n
    have e2 := registerM (n := n) (B := B) (a50 := g) h1 h hp hs hm (by omega) (fun k hk => ⟨(hb k hk).1, by rw [g2 k hk, Nat.zero_add]; exact (hb k hk).2.2⟩)
    have e3 := backI (mo := m / 2) h (by omega) hl he
    have e4 := powI h1 h hp hl (show 8 * k < 2 ^ 31 by omega)
    obtain ⟨x, f1, f2⟩ := powL h1 h hp hl (show 8 * k < 2 ^ 31 by omega)
    have h1w : 1 < 2 ^ w := Nat.one_lt_two_pow (by omega)
    have hz := pz_lt hp 31 (8 * k) _ _ hl (kT_lt (w := w) (r := 1) hp)
    have e5 := sumR (mo := m / 2) h hz he (by omega)
    have e6 := endedM (e := e) h hz hm
    have e7 : t_X12_moved 1 (nI w) (lN p) = lN (kT w p 1) := movedL (r := 1) h1 h h1w
    have e8 : q_X1_sumAfterZeros (lN (outS w (m / 2) e (reg w p (m % 2) B 0 s n))) (nI k) (nI w) (nI p) (nI e) (nI (m / 2)) = some (lN (outS w (m / 2) e (pz w p 31 (8 * k) (reg w p (m % 2) B 0 s n) (kT w p 1)))) := by
      unfold q_X1_sumAfterZeros
      rw [e3, Option.bind_some, show (8 : Int32) * nI k = nI (8 * k) from nI_mul 8 k, e4, Option.bind_some, e5, Option.bind_some]
    have e9 : q_X11_zeros (nI k) (nI n) (nI w) (nI p) (nI s) (nI e) (nI (m % 2)) (nI (m / 2)) a2 = some (.inr (lN (outS w (m / 2) e (pz w p 31 (8 * k) (reg w p (m % 2) B 0 s n) (kT w p 1)))), ()) := by
      unfold q_X11_zeros t_X5_size
      rw [if_neg (nI_pos (by omega)), if_pos (show nI k ≤ 1000000 from nI_le (b := 1000000) (by omega) (by decide)), e1, Option.bind_some, e8, Option.bind_some]
    have e10 : t_X12_in (nI k).toInt64 0 1000000 = 1 := in_T (by rw [tl, nI_toInt (by omega)]; show (0 : Int) ≤ _; omega) (by rw [tl, nI_toInt (by omega)]; show _ ≤ (1000000 : Int); omega)
    have e11 : (8 : Int32) * nI k = nI (8 * k) := nI_mul 8 k
    simp only [x1, if_true, q_L_zeros, e9, xbnd, Option.bind_some, q_X12_zeros, e10, ite10, g1, e2, e7, e11, f1, f2, e6, t_X12_tellsLong, t_X12_thrown, ite00, c0, updL_eq, lgs]
    exact ⟨_, rfl⟩
  · have e9 : q_X11_zeros p1 (nI n) (nI w) (nI p) (nI s) (nI e) (nI (m % 2)) (nI (m / 2)) a2 = some (.inl 0, ()) := by
      unfold q_X11_zeros
      by_cases c : p1 < 0
      · rw [if_pos c]
      · rw [if_neg c]
        rw [ltI, i0] at c
        rw [if_neg (by rw [leI, show (1000000 : Int32).toInt = 1000000 from rfl]; omega)]
    have e10 : t_X12_in p1.toInt64 0 1000000 = 0 := in_F (by rw [tl]; show _ < (0 : Int) ∨ (1000000 : Int) < _; omega)
    simp only [x1, if_true, q_L_zeros, e9, xbnd, Option.bind_some, q_X12_zeros, e10, ite10, ite00, t_X12_fails, t_X12_thrown]
    exact ⟨_, rfl⟩

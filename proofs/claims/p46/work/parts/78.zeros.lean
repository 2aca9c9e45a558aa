/-! The call zeros. -/
def tm (w p a b : Nat) : Nat → Nat → Nat
  | 0, r => r
  | k + 1, r => tm w p a b k (if b.testBit k = true then kT w p r ^^^ a else kT w p r)
def tmw (w p a b : Nat) : Nat := tm w p a b w 0
def pz (w p : Nat) : Nat → Nat → Nat → Nat → Nat
  | 0, _, r, _ => r
  | f + 1, n, r, z => if n = 0 then r else pz w p f (n / 2) (if n % 2 = 1 then tmw w p r z else r) (tmw w p z z)
theorem tm_lt {w p a b : Nat} (hp : p < 2 ^ w) (ha : a < 2 ^ w) : ∀ k r, r < 2 ^ w → tm w p a b k r < 2 ^ w := by
  intro k
  induction k with
  | zero => intro r h; exact h
  | succ k ih =>
    intro r _
    refine ih _ ?_
    split
    · exact Nat.xor_lt_two_pow (kT_lt hp) ha
    · exact kT_lt hp
theorem tmw_lt {w p a b : Nat} (hp : p < 2 ^ w) (ha : a < 2 ^ w) : tmw w p a b < 2 ^ w := tm_lt hp ha w 0 (Nat.two_pow_pos w)
theorem pz_lt {w p : Nat} (hp : p < 2 ^ w) : ∀ f n r z, r < 2 ^ w → z < 2 ^ w → pz w p f n r z < 2 ^ w := by
  intro f
  induction f with
  | zero => intro n r z h _; exact h
  | succ f ih =>
    intro n r z h1 h2
    rw [pz]
    split
    · exact h1
    · refine ih _ _ _ ?_ (tmw_lt hp h2)
      split
      · exact tmw_lt hp h1
      · exact h1
theorem timesI {w p a b : Nat} (h1 : 1 ≤ w) (h : w ≤ 32) (hp : p < 2 ^ w) (ha : a < 2 ^ w) (hb : b < 2 ^ w) : q_X1_times (nI a) (nI b) (nI w) (nI p) = some (nI (tmw w p a b)) := by
  have hw := pow_le h
  have key : ∀ k f r, k ≤ w → k < f → r < 2 ^ w → ∃ x : Int32 × Int32, q_X1_times_L10 (nI a) (nI b) (nI w) (nI p) f (nI r) (nI k + (-1)) = some x ∧ x.1 = nI (tm w p a b k r) := by
    intro k
    induction k with
    | zero =>
      intro f r _ hf _
      obtain ⟨f, rfl⟩ : ∃ g, f = g + 1 := ⟨f - 1, by omega⟩
      exact ⟨_, by rw [q_X1_times_L10, if_pos (by decide)], rfl⟩
    | succ k ih =>
      intro f r hk hf hr
      obtain ⟨f, rfl⟩ : ∃ g, f = g + 1 := ⟨f - 1, by omega⟩
      have e : (if (xus (nI b) (nI k)) &&& 1 = 0 then t_X1_timesZ (nI r) (nI w) (nI p) else (t_X1_timesZ (nI r) (nI w) (nI p)) ^^^ nI a) = nI (if b.testBit k = true then kT w p r ^^^ a else kT w p r) := by
        rw [nI_xus (by omega) (by omega), k1, nI_and, and1, tb_div, timesZI h1 h hr, nI_xor]
        cases b.testBit k with
        | true => rw [if_neg (show ¬ nI true.toNat = 0 by decide), if_pos rfl]
        | false => rw [if_pos (show nI false.toNat = 0 from rfl), if_neg (by decide)]
      rw [nI_m1 (by omega), show k + 1 - 1 = k by omega, q_X1_times_L10, if_neg (nI_pos (by omega)), e]
      refine ih f _ (by omega) (by omega) ?_
      split
      · exact Nat.xor_lt_two_pow (kT_lt hp) ha
      · exact kT_lt hp
  obtain ⟨x, e1, e2⟩ := key w 10000 0 (Nat.le_refl w) (by omega) (Nat.two_pow_pos w)
  unfold q_X1_times tmw
  have e3 : nI w - 1 = nI w + (-1) := by rw [nI_pred' h1, nI_m1 h1]
  rw [e3]
  show Option.bind (q_X1_times_L10 (nI a) (nI b) (nI w) (nI p) 10000 (nI 0) (nI w + -1)) _ = _
  rw [e1, Option.bind_some, e2]
theorem powI {w p r n : Nat} (h1 : 1 ≤ w) (h : w ≤ 32) (hp : p < 2 ^ w) (hr : r < 2 ^ w) (hn : n < 2 ^ 31) : q_X1_timesPowerOfZ (nI r) (nI n) (nI w) (nI p) = some (nI (pz w p 31 n r (kT w p 1))) := by
  have key : ∀ k f i r z, k + i = 31 → k < f → r < 2 ^ w → z < 2 ^ w → ∃ x : Int32 × Int32 × Int32, q_X1_timesPowerOfZ_L12 (nI n) (nI w) (nI p) f (nI r) (nI z) (nI i) = some x ∧ x.1 = nI (pz w p k (n / 2 ^ i) r z) := by
    intro k
    induction k with
    | zero =>
      intro f i r z hk hf _ _
      obtain ⟨f, rfl⟩ : ∃ g, f = g + 1 := ⟨f - 1, by omega⟩
      exact ⟨_, by rw [q_X1_timesPowerOfZ_L12, if_pos (show (31 : Int32) ≤ nI i from nI_le (a := 31) (by omega) (by omega))], rfl⟩
    | succ k ih =>
      intro f i r z hk hf hr hz
      obtain ⟨f, rfl⟩ : ∃ g, f = g + 1 := ⟨f - 1, by omega⟩
      have hd : n / 2 ^ i ≤ n := Nat.div_le_self _ _
      rw [q_X1_timesPowerOfZ_L12, if_neg (show ¬ (31 : Int32) ≤ nI i from nI_ge (b := 31) (by omega) (by decide)), nI_xus (by omega) (by omega), pz, k1, nI_and, and1]
      by_cases c : n / 2 ^ i = 0
      · rw [c, if_pos (show nI 0 = 0 from rfl), if_pos rfl]
        exact ⟨_, rfl, rfl⟩
      · rw [if_neg (show ¬ nI (n / 2 ^ i) = 0 from ne_of_nI (b := 0) c (by omega) (by decide)), if_neg c]
        have e2 : n / 2 ^ i / 2 = n / 2 ^ (i + 1) := by rw [Nat.div_div_eq_div_mul, Nat.pow_succ]
        have hsq := tmw_lt (b := z) hp hz
        by_cases o : n / 2 ^ i % 2 = 1
        · rw [o, if_neg (show ¬ nI 1 = 0 by decide), if_pos rfl, timesI h1 h hp hr hz, Option.bind_some, timesI h1 h hp hz hz, Option.bind_some, nI_add, e2]
          exact ih f (i + 1) _ _ (by omega) (by omega) (tmw_lt hp hr) hsq
        · rw [show n / 2 ^ i % 2 = 0 by omega, if_pos (show nI 0 = 0 from rfl), if_neg (by decide), timesI h1 h hp hz hz, Option.bind_some, nI_add, e2]
          exact ih f (i + 1) _ _ (by omega) (by omega) hr hsq
  have h1w : 1 < 2 ^ w := Nat.one_lt_two_pow (by omega)
  obtain ⟨x, e1, e2⟩ := key 31 10000 0 r (kT w p 1) (by omega) (by omega) hr (kT_lt hp)
  rw [Nat.pow_zero, Nat.div_one] at e2
  unfold q_X1_timesPowerOfZ
  have e3 : t_X1_timesZ 1 (nI w) (nI p) = nI (kT w p 1) := timesZI (r := 1) h1 h h1w
  rw [e3]
  show Option.bind (q_X1_timesPowerOfZ_L12 (nI n) (nI w) (nI p) 10000 (nI r) (nI (kT w p 1)) (nI 0)) _ = _
  rw [e1, Option.bind_some, e2]
theorem nI_half {n : Nat} (h : n < 2147483648) : nI n >>> ((1 : Int32) &&& 31) = nI (n / 2) := nI_of_bv (by
  rw [show ((1 : Int32) &&& 31) = 1 by decide, Int32.toBitVec_shiftRight, nI_bv]
  apply BitVec.eq_of_toInt_eq
  rw [show (1 : Int32).toBitVec.smod 32 = 1#32 by decide]
  show (BitVec.sshiftRight _ _).toInt = _
  rw [BitVec.toInt_sshiftRight, show (1#32).toNat = 1 from rfl, Int.shiftRight_eq_div_pow]
  show (nI n).toInt / ((2 ^ 1 : Nat) : Int) = (nI (n / 2)).toInt
  rw [nI_toInt h, nI_toInt (by omega)]
  omega)
theorem mir_mir {r w : Nat} (hr : r < 2 ^ w) : mir (mir r w) w = r := by
  apply Nat.eq_of_testBit_eq
  intro i
  rw [mir_bit, mir_bit]
  by_cases c : i < w
  · rw [decide_eq_true c, decide_eq_true (show w - 1 - i < w by omega), Bool.true_and, Bool.true_and]; congr 1; omega
  · rw [decide_eq_false c, Bool.false_and, Nat.testBit_lt_two_pow (Nat.lt_of_lt_of_le hr (Nat.pow_le_pow_right (by decide) (by omega)))]
theorem xor_cancel (a b : Nat) : a ^^^ b ^^^ b = a := by rw [Nat.xor_assoc, Nat.xor_self, Nat.xor_zero]
/-- from a sum back to its register -/
theorem backI {w e mo r : Nat} (h : w ≤ 32) (hmo : mo < 2) (hr : r < 2 ^ w) (he : e < 2 ^ w) : q_X1_registerOfSum (lN (outS w mo e r)) (nI w) (nI e) (nI mo) = some (nI r) := by
  have hw := pow_le h
  unfold q_X1_registerOfSum
  rw [lN_i, nI_xor]
  unfold outS
  rw [xor_cancel]
  by_cases c : mo = 0
  · subst c
    rw [if_pos (show nI 0 = 0 from rfl), if_pos rfl]
  · have hm := mir_lt r w
    rw [if_neg (show ¬ nI mo = 0 from ne_of_nI (b := 0) c (by omega) (by decide)), if_neg c, mirI (by omega) h, Option.bind_some, mir_mir hr]
theorem sumR {w r e mo : Nat} (h : w ≤ 32) (hr : r < 2 ^ w) (he : e < 2 ^ w) (hmo : mo < 2) : q_X1_sumOfRegister (nI r) (nI w) (nI e) (nI mo) = some (lN (outS w mo e r)) := by
  rcases sumOfR (mo := mo) h hr he with e1 | e1
  · exact e1
  · exact absurd hmo e1

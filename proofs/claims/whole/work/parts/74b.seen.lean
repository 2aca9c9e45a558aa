/-! The call isSeen: Horner's way and the long division. -/
def hH (w p P : Nat) : Nat → Nat → Nat
  | 0, r => r
  | k + 1, r => hH w p P k (kT w p r ^^^ (P.testBit k).toNat)
theorem mul_add_xor {a i : Nat} (b : Nat) (h : a < 2 ^ i) : 2 ^ i * b + a = (2 ^ i * b) ^^^ a := by
  apply Nat.eq_of_testBit_eq
  intro j
  rw [Nat.testBit_two_pow_mul_add b h j, Nat.testBit_xor, Nat.testBit_two_pow_mul]
  by_cases c : j < i
  · rw [if_pos c, decide_eq_false (show ¬ i ≤ j by omega), Bool.false_and, Bool.false_xor]
  · rw [if_neg c, decide_eq_true (show i ≤ j by omega), Nat.testBit_lt_two_pow (Nat.lt_of_lt_of_le h (Nat.pow_le_pow_right (by decide) (show i ≤ j by omega))), Bool.true_and, Bool.xor_false]
theorem bool_lt (b : Bool) : b.toNat < 2 := by cases b <;> decide
theorem half_step (A k : Nat) : A / 2 ^ k = 2 * (A / 2 ^ (k + 1)) + (A.testBit k).toNat := by
  rw [← tb_div, Nat.pow_succ, ← Nat.div_div_eq_div_mul]
  omega
theorem hstep {w p r A k : Nat} {c : Bool} (h1 : 1 ≤ w) (hp : p < 2 ^ w) (hr : r < 2 ^ w) (hA : A / 2 ^ (k + 1) = r) (hc : A.testBit k = c) :
    (if A.testBit (k + w) = true then A ^^^ (2 ^ w + p) * 2 ^ k else A) / 2 ^ k = kT w p r ^^^ c.toNat := by
  obtain ⟨v, rfl⟩ : ∃ v, w = v + 1 := ⟨w - 1, by omega⟩
  have hb : A.testBit (k + (v + 1)) = r.testBit v := by
    rw [← hA, Nat.testBit_div_two_pow]
    congr 1
    omega
  have hs := half_step A k
  rw [hA, hc] at hs
  have hx := mul_add_xor (i := 1) r (bool_lt c)
  rw [Nat.pow_one] at hx
  rw [hb]
  unfold kT
  rw [show v + 1 - 1 = v by omega, tb_div]
  by_cases e : r.testBit v = true
  · rw [if_pos e, e, if_pos (show true.toNat = 1 from rfl), Nat.xor_div_two_pow, Nat.mul_div_cancel _ (Nat.two_pow_pos k), hs, hx]
    have e1 : 2 * r = 2 ^ (v + 1) ^^^ (2 * r % 2 ^ (v + 1)) := by
      have hv := Nat.ge_two_pow_of_testBit e
      have h2 : 2 * r / 2 ^ (v + 1) = 1 := by
        apply Nat.div_eq_of_lt_le
        · rw [Nat.one_mul, Nat.pow_succ]; omega
        · rw [Nat.pow_succ] at hr ⊢; omega
      have := mul_add_xor (i := v + 1) 1 (Nat.mod_lt (2 * r) (Nat.two_pow_pos (v + 1)))
      have hd := Nat.div_add_mod (2 * r) (2 ^ (v + 1))
      rw [h2] at hd
      rw [Nat.mul_one] at this hd
      rw [← this, hd]
    have e2 : 2 ^ (v + 1) + p = 2 ^ (v + 1) ^^^ p := by
      have := mul_add_xor (i := v + 1) 1 hp
      rw [Nat.mul_one] at this
      exact this
    rw [e2]
    conv => lhs; rw [e1]
    apply Nat.eq_of_testBit_eq
    intro j
    simp only [Nat.testBit_xor]
    cases (2 ^ (v + 1)).testBit j <;> cases (2 * r % 2 ^ (v + 1)).testBit j <;> cases p.testBit j <;> cases c.toNat.testBit j <;> rfl
  · have hr2 := lt_of_top hr e
    rw [if_neg e, Bool.eq_false_iff.mpr e, if_neg (show ¬ false.toNat = 1 by decide), hs, hx, Nat.mod_eq_of_lt (show 2 * r < 2 ^ (v + 1) by rw [Nat.pow_succ]; omega)]
theorem dv_horner {w p P : Nat} (h1 : 1 ≤ w) (hp : p < 2 ^ w) : ∀ k A T r, A / 2 ^ k = r → r < 2 ^ w → A % 2 ^ k = P % 2 ^ k → (dv (2 ^ w + p) w k A T).1 = hH w p P k r := by
  intro k
  induction k with
  | zero => intro A T r h _ _; rw [Nat.pow_zero, Nat.div_one] at h; exact h
  | succ k ih =>
    intro A T r h hr hm
    have hb : A.testBit k = P.testBit k := by
      have e1 : (A % 2 ^ (k + 1)).testBit k = A.testBit k := by rw [Nat.testBit_mod_two_pow, decide_eq_true (show k < k + 1 by omega), Bool.true_and]
      have e2 : (P % 2 ^ (k + 1)).testBit k = P.testBit k := by rw [Nat.testBit_mod_two_pow, decide_eq_true (show k < k + 1 by omega), Bool.true_and]
      rw [← e1, ← e2, hm]
    have hm' : A % 2 ^ k = P % 2 ^ k := by
      have e1 := Nat.mod_mod_of_dvd A (Nat.pow_dvd_pow 2 (show k ≤ k + 1 by omega))
      have e2 := Nat.mod_mod_of_dvd P (Nat.pow_dvd_pow 2 (show k ≤ k + 1 by omega))
      rw [← e1, ← e2, hm]
    have hs := hstep h1 hp hr h hb
    have hl : kT w p r ^^^ (P.testBit k).toNat < 2 ^ w := Nat.xor_lt_two_pow (kT_lt hp) (Nat.lt_of_lt_of_le (bool_lt _) (Nat.pow_le_pow_right (n := 2) (i := 1) (by decide) h1))
    rw [dv]
    show _ = hH w p P k _
    by_cases c : A.testBit (k + w) = true
    · rw [if_pos c] at hs ⊢
      refine ih _ _ _ hs hl ?_
      rw [Nat.xor_mod_two_pow, Nat.mul_mod_left, Nat.xor_zero, hm']
    · rw [if_neg c] at hs ⊢
      exact ih _ _ _ hs hl hm'
theorem seenM {w p P s : Nat} {a53 : Nat → Int32} (hs : s < 8) (h1 : 1 ≤ w) (h : w ≤ 32) (hp : p < 2 ^ w) (ha : ∀ k, k < 96 → a53 (96 * s + k) = nI (P / 2 ^ k % 2)) : ∀ k f r, k ≤ 96 → k < f → r < 2 ^ w →
    ∃ x : Int64 × Int32, q_X12_isSeen_L43 (nI s) a53 (nI w) (lN p) f (lN r) (nI k + (-1)) = some x ∧ x.1 = lN (hH w p P k r) ∧ hH w p P k r < 2 ^ w := by
  intro k
  induction k with
  | zero =>
    intro f r _ hf hr
    obtain ⟨f, rfl⟩ : ∃ g, f = g + 1 := ⟨f - 1, by omega⟩
    exact ⟨_, by rw [q_X12_isSeen_L43, if_pos (by decide)], rfl, hr⟩
  | succ k ih =>
    intro f r hk hf hr
    obtain ⟨f, rfl⟩ : ∃ g, f = g + 1 := ⟨f - 1, by omega⟩
    have hl : kT w p r ^^^ (P.testBit k).toNat < 2 ^ w := Nat.xor_lt_two_pow (kT_lt hp) (Nat.lt_of_lt_of_le (bool_lt _) (Nat.pow_le_pow_right (n := 2) (i := 1) (by decide) h1))
    rw [nI_m1 (by omega), show k + 1 - 1 = k by omega, q_X12_isSeen_L43, if_neg (nI_pos (by omega)), k96, nI_mul, nI_add, if_pos (xinI (by omega) (by omega)), nI_clamp (by omega), ha k (by omega), bt_tb, movedL h1 h hr, nI_l (by have := bool_lt (P.testBit k); omega), lN_xor]
    exact ih f _ (by omega) (by omega) hl
theorem M_22 : MS_22 := by
  intro S l4 a10 a11 c12_0 c12_1 c8_0 c8_1 c13_0 c13_1 c14_0 c14_1 a66 a53 c48_24 c48_26 c1_1 a2 c48_17 a49 c3_1 c3_2 c4_0 a5 a6 c48_20 a52 c8_2 c8_3 c8_4 c8_5 c48_25 c48_27 c48_28 c7_0 c7_1 c7_2 c7_3 c7_4 c7_5 c17_1 a18 c48_21 a57 c23_4 c24_0 a25 a26 c48_22 a58 a22 x1 x2 x3 x4 x5 hB hP hK h7 hS hD hW hC
  obtain ⟨w, p, s0, e0, m, h1, h, hp, -, -, -, -, rfl, rfl, -, -, -, -, rfl, -, rfl, -, -⟩ := hK
  unfold q_case22
  generalize S.2 (l4 + (1 : Int32)).toNatClampNeg = p1
  have hw := pow_le h
  obtain ⟨n1, n2, n3⟩ := numK h hp
  rcases cls p1 (n := 8) (by omega) with ⟨s, hs, rfl⟩ | hF
  · obtain ⟨P, hP, b1, b2, b3⟩ := hS s hs
    have b1 : a10 s = pL P := b1
    have b2 : a11 s = pH P := b2
    by_cases z : P = 0
    · subst z
      have e1 : q_X11_isSeen (nI s) a10 a11 c12_0 c12_1 (nI w) (nI p) c13_0 c13_1 c14_0 c14_1 = some (.inl 4, (pL 0, pH 0, c13_0, c13_1, c14_0, c14_1)) := by
        unfold q_X11_isSeen
        rw [rsT hs]
        simp only [xbnd, takeS hs, Option.bind_some, b1, b2, isZ hP, if_true, ite1e]
      have e2 : q_X12_isSeen (nI s) a53 (nI w) (lN p) = some (0, 2) := by
        unfold q_X12_isSeen
        rw [msT hs, ite10, degM hs hP b3, Option.bind_some]
        exact if_neg (by decide)
      simp only [x1, if_true, q_L_isSeen, e1, xbnd, Option.bind_some, e2, t_X12_thrown]
      exact ⟨_, rfl⟩
    · have ez : 2 ^ w + p ≠ 0 := by have := Nat.two_pow_pos w; omega
      have hK96 : 2 ^ w + p < 2 ^ 96 := by omega
      have el : (2 ^ w + p).log2 = w := (Nat.log2_eq_iff ez).mpr ⟨Nat.le_add_right _ _, by rw [Nat.pow_succ]; omega⟩
      have hlv := leaveC hP hK96 ez
      rw [el] at hlv
      have hd := dv_horner h1 hp 96 P 0 0 (by rw [Nat.div_eq_of_lt hP]) (Nat.two_pow_pos w) rfl (P := P)
      have hsk := dv_skip (Q := 2 ^ w + p) (b := w) (k := 96 - w) w P 0 (by rw [show 96 - w + w = 96 by omega]; exact hP)
      rw [show 96 - w + w = 96 by omega] at hsk
      rw [hsk] at hd
      obtain ⟨x, y1, y2, y3⟩ := seenM hs h1 h hp b3 96 10000 0 (by omega) (by omega) (Nat.two_pow_pos w)
      rw [← hd] at y2 y3
      have y1 : q_X12_isSeen_L43 (nI s) a53 (nI w) (lN p) 10000 0 95 = some x := y1
      generalize (dv (2 ^ w + p) w (96 - w) P 0).1 = R at *
      generalize (dv (2 ^ w + p) w (96 - w) P 0).2 = T at *
      have hR : R < 2 ^ 96 := by omega
      have e1 : q_X11_isSeen (nI s) a10 a11 c12_0 c12_1 (nI w) (nI p) c13_0 c13_1 c14_0 c14_1 = some (.inr (if R = 0 then 0 else 1), (pL R, pH R, pL (2 ^ w + p), pH (2 ^ w + p), pL T, pH T)) := by
        unfold q_X11_isSeen t_X4_become
        rw [rsT hs, n1, n2]
        simp only [xbnd, takeS hs, Option.bind_some, b1, b2, isZ hP, if_neg z, if_true, hlv, isZ hR]
        by_cases c : R = 0
        · rw [if_pos c, ite10, if_pos c]
        · rw [if_neg c, ite00, if_neg c]
      have e2 : q_X12_isSeen (nI s) a53 (nI w) (lN p) = some (if R = 0 then 0 else 1, 0) := by
        unfold q_X12_isSeen
        have hd0 : (0 : Int32) ≤ dgI P := by
          rcases dg_cases hP with ⟨e, -⟩ | ⟨-, h95, e, -, -⟩
          · exact absurd e z
          · rw [e]; exact nI_le (a := 0) (Nat.zero_le _) (by omega)
        have hz : lg_cmp x.1 0 = 0 ↔ R = 0 := by rw [y2, lg_eq, show (0 : Int64) = lN 0 from rfl, lN_inj (by omega) (by omega)]
        rw [msT hs, ite10, degM hs hP b3, Option.bind_some]
        simp only [if_pos hd0, y1, Option.bind_some, hz]
        by_cases c : R = 0
        · rw [if_pos c, if_pos c]; rfl
        · rw [if_neg c, if_neg c]; rfl
      by_cases c : R = 0
      · rw [if_pos c] at e1 e2
        simp only [x1, if_true, q_L_isSeen, e1, xbnd, Option.bind_some, e2, t_X12_thrown, ite00, c0, updL_eq, lgs]
        exact ⟨_, rfl⟩
      · rw [if_neg c] at e1 e2
        simp only [x1, if_true, q_L_isSeen, e1, xbnd, Option.bind_some, e2, t_X12_thrown, ite00, ite1e, c0, updL_eq, lgs]
        exact ⟨_, rfl⟩
  · have e1 : q_X11_isSeen p1 a10 a11 c12_0 c12_1 (nI w) (nI p) c13_0 c13_1 c14_0 c14_1 = some (.inl 2, (c12_0, c12_1, c13_0, c13_1, c14_0, c14_1)) := by
      unfold q_X11_isSeen
      rw [rsF hF]; rfl
    have e2 : q_X12_isSeen p1 a53 (nI w) (lN p) = some (0, 1) := by
      unfold q_X12_isSeen
      rw [msF hF, ite00]
      exact if_neg (by decide)
    simp only [x1, if_true, q_L_isSeen, e1, xbnd, Option.bind_some, e2, t_X12_thrown]
    exact ⟨_, rfl⟩

/-! The call isSeen: Horner's way and the long division. -/
def hH (w p P : Nat) : Nat → Nat → Nat
  | 0, r => r
  | k + 1, r => hH w p P k (kT w p r ^^^ (P.testBit k).toNat)
theorem mul_add_xor {a i : Nat} (b : Nat) (h : a < 2 ^ i) : 2 ^ i * b + a = (2 ^ i * b) ^^^ a := by
  apply Nat.eq_of_testBit_eq
  intro j
  rw [Nat.testBit_two_pow_mul_add b h j, Nat.testBit_xor, Nat.testBit_two_pow_mul]
  by_cases c : j < i
  · rw [if_pos c, decide_eq_false (show ¬ i ≤ j by omega), Bool.false_and, Bool.false_xor]
  · rw [if_neg c, decide_eq_true (show i ≤ j by omega), Nat.testBit_lt_two_pow (Nat.lt_of_lt_of_le h (Nat.pow_le_pow_right (by decide) (show i ≤ j by omega))), Bool.true_and, Bool.xor_false]
theorem bool_lt (b : Bool) : b.toNat < 2 := by cases b <;> decide
theorem half_step (A k : Nat) : A / 2 ^ k = 2 * (A / 2 ^ (k + 1)) + (A.testBit k).toNat := by
  rw [← tb_div, Nat.pow_succ, ← Nat.div_div_eq_div_mul]
  omega
theorem hstep {w p r A k : Nat} {c : Bool} (h1 : 1 ≤ w) (hp : p < 2 ^ w) (hr : r < 2 ^ w) (hA : A / 2 ^ (k + 1) = r) (hc : A.testBit k = c) :
    (if A.testBit (k + w) = true then A ^^^ (2 ^ w + p) * 2 ^ k else A) / 2 ^ k = kT w p r ^^^ c.toNat := by
  obtain ⟨v, rfl⟩ : ∃ v, w = v + 1 := ⟨w - 1, by omega⟩
  have hb : A.testBit (k + (v + 1)) = r.testBit v := by
    rw [← hA, Nat.testBit_div_two_pow]
    congr 1
    omega
  have hs := half_step A k
  rw [hA, hc] at hs
  have hx := mul_add_xor (i := 1) r (bool_lt c)
  rw [Nat.pow_one] at hx
  rw [hb]
  unfold kT
  rw [show v + 1 - 1 = v by omega, tb_div]
  by_cases e : r.testBit v = true
  · rw [if_pos e, e, if_pos (show true.toNat = 1 from rfl), Nat.xor_div_two_pow, Nat.mul_div_cancel _ (Nat.two_pow_pos k), hs, hx]
    have e1 : 2 * r = 2 ^ (v + 1) ^^^ (2 * r % 2 ^ (v + 1)) := by
      have hv := Nat.ge_two_pow_of_testBit e
      have h2 : 2 * r / 2 ^ (v + 1) = 1 := by
        apply Nat.div_eq_of_lt_le
        · rw [Nat.one_mul, Nat.pow_succ]; omega
        · rw [Nat.pow_succ] at hr ⊢; omega
      have := mul_add_xor (i := v + 1) 1 (Nat.mod_lt (2 * r) (Nat.two_pow_pos (v + 1)))
      have hd := Nat.div_add_mod (2 * r) (2 ^ (v + 1))
      rw [h2] at hd
      rw [Nat.mul_one] at this hd
      rw [← this, hd]
    have e2 : 2 ^ (v + 1) + p = 2 ^ (v + 1) ^^^ p := by
      have := mul_add_xor (i := v + 1) 1 hp
      rw [Nat.mul_one] at this
      exact this
    rw [e2]
    conv => lhs; rw [e1]
    apply Nat.eq_of_testBit_eq
    intro j
    simp only [Nat.testBit_xor]
    cases (2 ^ (v + 1)).testBit j <;> cases (2 * r % 2 ^ (v + 1)).testBit j <;> cases p.testBit j <;> cases c.toNat.testBit j <;> rfl
  · have hr2 := lt_of_top hr e
    rw [if_neg e, Bool.eq_false_iff.mpr e, if_neg (show ¬ false.toNat = 1 by decide), hs, hx, Nat.mod_eq_of_lt (show 2 * r < 2 ^ (v + 1) by rw [Nat.pow_succ]; omega)]
theorem dv_horner {w p P : Nat} (h1 : 1 ≤ w) (hp : p < 2 ^ w) : ∀ k A T r, A / 2 ^ k = r → r < 2 ^ w → A % 2 ^ k = P % 2 ^ k → (dv (2 ^ w + p) w k A T).1 = hH w p P k r := by
  intro k
  induction k with
  | zero => intro A T r h _ _; rw [Nat.pow_zero, Nat.div_one] at h; exact h
  | succ k ih =>
    intro A T r h hr hm
    have hb : A.testBit k = P.testBit k := by
      have e1 : (A % 2 ^ (k + 1)).testBit k = A.testBit k := by rw [Nat.testBit_mod_two_pow, decide_eq_true (show k < k + 1 by omega), Bool.true_and]
      have e2 : (P % 2 ^ (k + 1)).testBit k = P.testBit k := by rw [Nat.testBit_mod_two_pow, decide_eq_true (show k < k + 1 by omega), Bool.true_and]
      rw [← e1, ← e2, hm]
    have hm' : A % 2 ^ k = P % 2 ^ k := by
      have e1 := Nat.mod_mod_of_dvd A (Nat.pow_dvd_pow 2 (show k ≤ k + 1 by omega))
      have e2 := Nat.mod_mod_of_dvd P (Nat.pow_dvd_pow 2 (show k ≤ k + 1 by omega))
      rw [← e1, ← e2, hm]
    have hs := hstep h1 hp hr h hb
    have hl : kT w p r ^^^ (P.testBit k).toNat < 2 ^ w := Nat.xor_lt_two_pow (kT_lt hp) (Nat.lt_of_lt_of_le (bool_lt _) (Nat.pow_le_pow_right (n := 2) (i := 1) (by decide) h1))
    rw [dv]
    show _ = hH w p P k _
    by_cases c : A.testBit (k + w) = true
    · rw [if_pos c] at hs ⊢
      refine ih _ _ _ hs hl ?_
      rw [Nat.xor_mod_two_pow, Nat.mul_mod_left, Nat.xor_zero, hm']
    · rw [if_neg c] at hs ⊢
      exact ih _ _ _ hs hl hm'

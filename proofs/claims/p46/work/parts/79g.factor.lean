/-! The call factor. -/
theorem xor_or {T k : Nat} (h : T.testBit k = false) : T ||| 2 ^ k = T ^^^ 2 ^ k := by
  apply Nat.eq_of_testBit_eq
  intro i
  rw [Nat.testBit_or, Nat.testBit_xor, Nat.testBit_two_pow]
  by_cases e : k = i
  · subst e
    rw [h, decide_eq_true rfl]; rfl
  · rw [decide_eq_false e, Bool.or_false, Bool.xor_false]
theorem z32 {a : Nat} (h : a < 2147483648) : nI a = 0 ↔ a = 0 := nI_eq (b := 0) h (by decide)
theorem le1 {L : Nat} (h : L < 2147483648) : nI L ≤ (1 : Int32) ↔ L ≤ 1 := by
  constructor
  · intro q
    exact Nat.le_of_not_lt (fun c => nI_ge (a := 1) c (by omega) q)
  · intro q
    exact nI_le (b := 1) q (by decide)
theorem no1 {d : Nat} (h : 2 ≤ d) : ¬ d < 2 := by omega

/-! The call divide. -/
def dv (Q b : Nat) : Nat → Nat → Nat → Nat × Nat
  | 0, A, T => (A, T)
  | k + 1, A, T => if A.testBit (k + b) = true then dv Q b k (A ^^^ Q * 2 ^ k) (T ^^^ 2 ^ k) else dv Q b k A T
def RW (a : Nat → Int32) (P : Nat) : Prop := ∀ t, t < 96 → a t = nI (P.testBit t).toNat
theorem qk_lt {Q b k : Nat} (hQ : Q < 2 ^ (b + 1)) (h : k + b < 96) : Q * 2 ^ k < 2 ^ 96 := by
  have h2 : Q * 2 ^ k < 2 ^ (b + 1) * 2 ^ k := Nat.mul_lt_mul_of_pos_right hQ (Nat.two_pow_pos k)
  rw [← Nat.pow_add] at h2
  exact Nat.lt_of_lt_of_le h2 (Nat.pow_le_pow_right (by decide) (by omega))
theorem dv_lt {Q b : Nat} (hQ : Q < 2 ^ (b + 1)) : ∀ k A T, k + b ≤ 96 → A < 2 ^ 96 → T < 2 ^ 96 → (dv Q b k A T).1 < 2 ^ 96 ∧ (dv Q b k A T).2 < 2 ^ 96 := by
  intro k
  induction k with
  | zero => intro A T _ h1 h2; exact ⟨h1, h2⟩
  | succ k ih =>
    intro A T hk h1 h2
    rw [dv]
    by_cases c : A.testBit (k + b) = true
    · rw [if_pos c]
      exact ih _ _ (by omega) (Nat.xor_lt_two_pow h1 (qk_lt hQ (by omega))) (Nat.xor_lt_two_pow h2 (Nat.pow_lt_pow_right (by decide) (by omega)))
    · rw [if_neg c]
      exact ih _ _ (by omega) h1 h2
theorem dv_skip {Q b k : Nat} : ∀ j A T, A < 2 ^ (k + b) → dv Q b (k + j) A T = dv Q b k A T := by
  intro j
  induction j with
  | zero => intro A T _; rfl
  | succ j ih =>
    intro A T h
    rw [show k + (j + 1) = (k + j) + 1 by omega, dv, if_neg, ih _ _ h]
    rw [Nat.testBit_lt_two_pow (Nat.lt_of_lt_of_le h (Nat.pow_le_pow_right (by decide) (by omega)))]
    decide
theorem xor_top {A B n : Nat} (hA : A < 2 ^ (n + 1)) (hB : B < 2 ^ (n + 1)) (a : A.testBit n = true) (b : B.testBit n = true) : A ^^^ B < 2 ^ n := by
  apply Nat.lt_pow_two_of_testBit
  intro i hi
  by_cases e : i = n
  · subst e; rw [Nat.testBit_xor, a, b]; rfl
  · have hp : 2 ^ (n + 1) ≤ 2 ^ i := Nat.pow_le_pow_right (by decide) (by omega)
    rw [Nat.testBit_xor, Nat.testBit_lt_two_pow (Nat.lt_of_lt_of_le hA hp), Nat.testBit_lt_two_pow (Nat.lt_of_lt_of_le hB hp)]; rfl
theorem lt_of_top {A n : Nat} (hA : A < 2 ^ (n + 1)) (a : ¬ A.testBit n = true) : A < 2 ^ n := by
  apply Nat.lt_pow_two_of_testBit
  intro i hi
  by_cases e : i = n
  · subst e; exact Bool.eq_false_iff.mpr a
  · exact Nat.testBit_lt_two_pow (Nat.lt_of_lt_of_le hA (Nat.pow_le_pow_right (by decide) (by omega)))
theorem top_bit {Q b : Nat} (h1 : 2 ^ b ≤ Q) (h2 : Q < 2 ^ (b + 1)) : Q.testBit b = true := by
  cases e : Q.testBit b with
  | true => rfl
  | false => exact absurd (lt_of_top h2 (by rw [e]; decide)) (by omega)
theorem dv_rest {Q b : Nat} (h1 : 2 ^ b ≤ Q) (h2 : Q < 2 ^ (b + 1)) : ∀ k A T, A < 2 ^ (k + b) → (dv Q b k A T).1 < 2 ^ b := by
  intro k
  induction k with
  | zero => intro A T h; rw [Nat.zero_add] at h; exact h
  | succ k ih =>
    intro A T h
    rw [show k + 1 + b = (k + b) + 1 by omega] at h
    rw [dv]
    by_cases c : A.testBit (k + b) = true
    · rw [if_pos c]
      refine ih _ _ (xor_top h ?_ c ?_)
      · have := Nat.mul_lt_mul_of_pos_right h2 (Nat.two_pow_pos k)
        rw [← Nat.pow_add, show b + 1 + k = k + b + 1 by omega] at this
        exact this
      · rw [Nat.testBit_mul_two_pow, decide_eq_true (show k ≤ k + b by omega), show k + b - k = b by omega, top_bit h1 h2]; rfl
    · rw [if_neg c]
      exact ih _ _ (lt_of_top h c)
theorem hasP' {P k : Nat} (hP : P < 2 ^ 96) (hk : k ≤ 95) : t_X4_hasPower (nI k) (pL P) (pH P) = if P.testBit k = true then 1 else 0 := by
  rw [hasP hP hk, tb_div]
  cases P.testBit k <;> rfl
theorem nI_m1 {k : Nat} (h : 0 < k) : nI k + (-1) = nI (k - 1) := nI_dec h
theorem restC {Q b : Nat} (hb : b ≤ 95) (h2 : Q < 2 ^ (b + 1)) : ∀ k f A T, k + b ≤ 96 → k < f → A < 2 ^ 96 → T < 2 ^ 96 →
    ∃ x, q_X4_leaveRest_L15 (nI b) (pL Q) (pH Q) f (nI (k + b) + (-1)) (pL T) (pH T) (pL A) (pH A) = some (x, pL (dv Q b k A T).2, pH (dv Q b k A T).2, pL (dv Q b k A T).1, pH (dv Q b k A T).1) := by
  intro k
  induction k with
  | zero =>
    intro f A T hk hf hA hT
    obtain ⟨f, rfl⟩ : ∃ g, f = g + 1 := ⟨f - 1, by omega⟩
    refine ⟨nI (0 + b) + (-1), ?_⟩
    rw [q_X4_leaveRest_L15, if_neg (nI_pos (by omega)), if_pos]
    · rfl
    · rw [Nat.zero_add]
      by_cases c : b = 0
      · subst c; decide
      · rw [nI_m1 (by omega), ltI, nI_toInt (by omega), nI_toInt (by omega)]; omega
  | succ k ih =>
    intro f A T hk hf hA hT
    obtain ⟨f, rfl⟩ : ∃ g, f = g + 1 := ⟨f - 1, by omega⟩
    rw [nI_m1 (by omega), show k + 1 + b - 1 = k + b by omega, dv, q_X4_leaveRest_L15, if_neg (nI_pos (by omega)), if_neg (show ¬ nI (k + b) < nI b by rw [ltI, nI_toInt (by omega), nI_toInt (by omega)]; omega), hasP' hA (by omega)]
    by_cases c : A.testBit (k + b) = true
    · rw [if_pos c, if_pos c, if_neg (by decide), nI_sub (by omega), show k + b - b = k by omega, addM (by omega) (qk_lt h2 (by omega))]
      have e : t_X4_addMoved 1 0 (nI k) (pL T) (pH T) = (pL (T ^^^ 2 ^ k), pH (T ^^^ 2 ^ k)) := by
        have := addM (A := T) (Q := 1) (k := k) (by omega) (by rw [Nat.one_mul]; exact Nat.pow_lt_pow_right (by decide) (by omega))
        rw [Nat.one_mul] at this
        exact this
      rw [e]
      exact ih f _ _ (by omega) (by omega) (Nat.xor_lt_two_pow hA (qk_lt h2 (by omega))) (Nat.xor_lt_two_pow hT (Nat.pow_lt_pow_right (by decide) (by omega)))
    · rw [if_neg c, if_neg c, if_pos rfl]
      exact ih f _ _ (by omega) (by omega) hA hT
theorem leaveC {P Q : Nat} (hP : P < 2 ^ 96) (hQ : Q < 2 ^ 96) (h0 : Q ≠ 0) : q_X4_leaveRest (pL Q) (pH Q) (pL P) (pH P) = some (pL (dv Q Q.log2 (96 - Q.log2) P 0).2, pH (dv Q Q.log2 (96 - Q.log2) P 0).2, pL (dv Q Q.log2 (96 - Q.log2) P 0).1, pH (dv Q Q.log2 (96 - Q.log2) P 0).1) := by
  rcases dg_cases hQ with ⟨e, -⟩ | ⟨-, h95, e, hl, -⟩
  · exact absurd e h0
  obtain ⟨x, hx⟩ := restC h95 hl (96 - Q.log2) 10000 P 0 (by omega) (by omega) hP (Nat.two_pow_pos 96)
  rw [show 96 - Q.log2 + Q.log2 = 96 by omega, show nI 96 + (-1) = (95 : Int32) from rfl] at hx
  unfold q_X4_leaveRest t_X4_become
  rw [degC hQ, e]
  show Option.bind (q_X4_leaveRest_L15 (nI Q.log2) (pL Q) (pH Q) 10000 95 (pL 0) (pH 0) (pL P) (pH P)) _ = _
  rw [hx]
  rfl
theorem degG {F : Nat → Int32 → Option Int32} {P : Nat} (hP : P < 2 ^ 96) (h1 : ∀ f, F (f + 1) (-1) = some (-1)) (h2 : ∀ f k, k < 96 → P.testBit k = true → F (f + 1) (nI k) = some (nI k)) (h3 : ∀ f k, k < 96 → P.testBit k = false → F (f + 1) (nI k) = F f (nI k + (-1))) : F 10000 95 = some (dgI P) := by
  have key : ∀ k f, k ≤ 96 → k < f → P < 2 ^ k → F f (nI k + (-1)) = some (dgI P) := by
    intro k
    induction k with
    | zero =>
      intro f _ hf h
      obtain ⟨f, rfl⟩ : ∃ g, f = g + 1 := ⟨f - 1, by omega⟩
      have : P = 0 := by omega
      subst this
      exact h1 f
    | succ k ih =>
      intro f hk hf h
      obtain ⟨f, rfl⟩ : ∃ g, f = g + 1 := ⟨f - 1, by omega⟩
      rw [nI_m1 (by omega), show k + 1 - 1 = k by omega]
      cases c : P.testBit k with
      | true => rw [h2 f k (by omega) c, log_of (Nat.ge_two_pow_of_testBit c) h]
      | false => rw [h3 f k (by omega) c]; exact ih f (by omega) (by omega) (lt_of_top h (by rw [c]; decide))
  exact key 96 10000 (by omega) (by omega) hP
theorem neg96 : ∀ b, b < 96 → ∀ a, a < b → nI a - nI b < 0 := by decide +kernel
theorem neg1b : ∀ b, b < 96 → (-1 : Int32) - nI b < 0 := by decide +kernel
theorem isZ {P : Nat} (hP : P < 2 ^ 96) : t_X4_isZero (pL P) (pH P) = if P = 0 then 1 else 0 := by
  unfold t_X4_isZero
  have e1 : lg_cmp (pL P) 0 = 0 ↔ P % 2 ^ 64 = 0 := by
    rw [lg_eq, show (0 : Int64) = lN 0 from rfl]
    unfold pL
    rw [lN_inj (by omega) (by omega)]
  have e2 : lg_cmp (pH P) 0 = 0 ↔ P / 2 ^ 64 = 0 := by
    rw [lg_eq, show (0 : Int64) = lN 0 from rfl]
    unfold pH
    rw [lN_inj (by omega) (by omega)]
  simp only [e1, e2]
  by_cases c : P = 0
  · subst c; rfl
  · rw [if_neg c]
    by_cases c1 : P % 2 ^ 64 = 0
    · rw [if_neg (fun h => h c1), if_pos (by omega)]
    · rw [if_pos c1]

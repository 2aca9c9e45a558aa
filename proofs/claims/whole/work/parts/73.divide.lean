/-! The call divide. -/
def dv (Q b : Nat) : Nat → Nat → Nat → Nat × Nat
  | 0, A, T => (A, T)
  | k + 1, A, T => if A.testBit (k + b) = true then dv Q b k (A ^^^ Q * 2 ^ k) (T ^^^ 2 ^ k) else dv Q b k A T
def RW (a : Nat → Int32) (P : Nat) : Prop := ∀ t, t < 96 → a t = nI (P.testBit t).toNat
theorem qk_lt {Q b k : Nat} (hQ : Q < 2 ^ (b + 1)) (h : k + b < 96) : Q * 2 ^ k < 2 ^ 96 := by
  have h2 : Q * 2 ^ k < 2 ^ (b + 1) * 2 ^ k := Nat.mul_lt_mul_of_pos_right hQ (Nat.two_pow_pos k)
  rw [← Nat.pow_add] at h2
  exact Nat.lt_of_lt_of_le h2 (Nat.pow_le_pow_right (by decide) (by omega))
theorem dv_lt {Q b : Nat} (hQ : Q < 2 ^ (b + 1)) : ∀ k A T, k + b ≤ 96 → A < 2 ^ 96 → T < 2 ^ 96 → (dv Q b k A T).1 < 2 ^ 96 ∧ (dv Q b k A T).2 < 2 ^ 96 := by
  intro k
  induction k with
  | zero => intro A T _ h1 h2; exact ⟨h1, h2⟩
  | succ k ih =>
    intro A T hk h1 h2
    rw [dv]
    by_cases c : A.testBit (k + b) = true
    · rw [if_pos c]
      exact ih _ _ (by omega) (Nat.xor_lt_two_pow h1 (qk_lt hQ (by omega))) (Nat.xor_lt_two_pow h2 (Nat.pow_lt_pow_right (by decide) (by omega)))
    · rw [if_neg c]
      exact ih _ _ (by omega) h1 h2
theorem dv_skip {Q b k : Nat} : ∀ j A T, A < 2 ^ (k + b) → dv Q b (k + j) A T = dv Q b k A T := by
  intro j
  induction j with
  | zero => intro A T _; rfl
  | succ j ih =>
    intro A T h
    rw [show k + (j + 1) = (k + j) + 1 by omega, dv, if_neg, ih _ _ h]
    rw [Nat.testBit_lt_two_pow (Nat.lt_of_lt_of_le h (Nat.pow_le_pow_right (by decide) (by omega)))]
    decide
theorem xor_top {A B n : Nat} (hA : A < 2 ^ (n + 1)) (hB : B < 2 ^ (n + 1)) (a : A.testBit n = true) (b : B.testBit n = true) : A ^^^ B < 2 ^ n := by
  apply Nat.lt_pow_two_of_testBit
  intro i hi
  by_cases e : i = n
  · subst e; rw [Nat.testBit_xor, a, b]; rfl
  · have hp : 2 ^ (n + 1) ≤ 2 ^ i := Nat.pow_le_pow_right (by decide) (by omega)
    rw [Nat.testBit_xor, Nat.testBit_lt_two_pow (Nat.lt_of_lt_of_le hA hp), Nat.testBit_lt_two_pow (Nat.lt_of_lt_of_le hB hp)]; rfl
theorem lt_of_top {A n : Nat} (hA : A < 2 ^ (n + 1)) (a : ¬ A.testBit n = true) : A < 2 ^ n := by
  apply Nat.lt_pow_two_of_testBit
  intro i hi
  by_cases e : i = n
  · subst e; exact Bool.eq_false_iff.mpr a
  · exact Nat.testBit_lt_two_pow (Nat.lt_of_lt_of_le hA (Nat.pow_le_pow_right (by decide) (by omega)))
theorem top_bit {Q b : Nat} (h1 : 2 ^ b ≤ Q) (h2 : Q < 2 ^ (b + 1)) : Q.testBit b = true := by
  cases e : Q.testBit b with
  | true => rfl
  | false => exact absurd (lt_of_top h2 (by rw [e]; decide)) (by omega)
theorem dv_rest {Q b : Nat} (h1 : 2 ^ b ≤ Q) (h2 : Q < 2 ^ (b + 1)) : ∀ k A T, A < 2 ^ (k + b) → (dv Q b k A T).1 < 2 ^ b := by
  intro k
  induction k with
  | zero => intro A T h; rw [Nat.zero_add] at h; exact h
  | succ k ih =>
    intro A T h
    rw [show k + 1 + b = (k + b) + 1 by omega] at h
    rw [dv]
    by_cases c : A.testBit (k + b) = true
    · rw [if_pos c]
      refine ih _ _ (xor_top h ?_ c ?_)
      · have := Nat.mul_lt_mul_of_pos_right h2 (Nat.two_pow_pos k)
        rw [← Nat.pow_add, show b + 1 + k = k + b + 1 by omega] at this
        exact this
      · rw [Nat.testBit_mul_two_pow, decide_eq_true (show k ≤ k + b by omega), show k + b - k = b by omega, top_bit h1 h2]; rfl
    · rw [if_neg c]
      exact ih _ _ (lt_of_top h c)
theorem hasP' {P k : Nat} (hP : P < 2 ^ 96) (hk : k ≤ 95) : t_X4_hasPower (nI k) (pL P) (pH P) = if P.testBit k = true then 1 else 0 := by
  rw [hasP hP hk, tb_div]
  cases P.testBit k <;> rfl
theorem nI_m1 {k : Nat} (h : 0 < k) : nI k + (-1) = nI (k - 1) := nI_dec h
theorem restC {Q b : Nat} (hb : b ≤ 95) (h2 : Q < 2 ^ (b + 1)) : ∀ k f A T, k + b ≤ 96 → k < f → A < 2 ^ 96 → T < 2 ^ 96 →
    ∃ x, q_X4_leaveRest_L15 (nI b) (pL Q) (pH Q) f (nI (k + b) + (-1)) (pL T) (pH T) (pL A) (pH A) = some (x, pL (dv Q b k A T).2, pH (dv Q b k A T).2, pL (dv Q b k A T).1, pH (dv Q b k A T).1) := by
  intro k
  induction k with
  | zero =>
    intro f A T hk hf hA hT
    obtain ⟨f, rfl⟩ : ∃ g, f = g + 1 := ⟨f - 1, by omega⟩
    refine ⟨nI (0 + b) + (-1), ?_⟩
    rw [q_X4_leaveRest_L15, if_neg (nI_pos (by omega)), if_pos]
    · rfl
    · rw [Nat.zero_add]
      by_cases c : b = 0
      · subst c; decide
      · rw [nI_m1 (by omega), ltI, nI_toInt (by omega), nI_toInt (by omega)]; omega
  | succ k ih =>
    intro f A T hk hf hA hT
    obtain ⟨f, rfl⟩ : ∃ g, f = g + 1 := ⟨f - 1, by omega⟩
    rw [nI_m1 (by omega), show k + 1 + b - 1 = k + b by omega, dv, q_X4_leaveRest_L15, if_neg (nI_pos (by omega)), if_neg (show ¬ nI (k + b) < nI b by rw [ltI, nI_toInt (by omega), nI_toInt (by omega)]; omega), hasP' hA (by omega)]
    by_cases c : A.testBit (k + b) = true
    · rw [if_pos c, if_pos c, if_neg (by decide), nI_sub (by omega), show k + b - b = k by omega, addM (by omega) (qk_lt h2 (by omega))]
      have e : t_X4_addMoved 1 0 (nI k) (pL T) (pH T) = (pL (T ^^^ 2 ^ k), pH (T ^^^ 2 ^ k)) := by
        have := addM (A := T) (Q := 1) (k := k) (by omega) (by rw [Nat.one_mul]; exact Nat.pow_lt_pow_right (by decide) (by omega))
        rw [Nat.one_mul] at this
        exact this
      rw [e]
      exact ih f _ _ (by omega) (by omega) (Nat.xor_lt_two_pow hA (qk_lt h2 (by omega))) (Nat.xor_lt_two_pow hT (Nat.pow_lt_pow_right (by decide) (by omega)))
    · rw [if_neg c, if_neg c, if_pos rfl]
      exact ih f _ _ (by omega) (by omega) hA hT
theorem leaveC {P Q : Nat} (hP : P < 2 ^ 96) (hQ : Q < 2 ^ 96) (h0 : Q ≠ 0) : q_X4_leaveRest (pL Q) (pH Q) (pL P) (pH P) = some (pL (dv Q Q.log2 (96 - Q.log2) P 0).2, pH (dv Q Q.log2 (96 - Q.log2) P 0).2, pL (dv Q Q.log2 (96 - Q.log2) P 0).1, pH (dv Q Q.log2 (96 - Q.log2) P 0).1) := by
  rcases dg_cases hQ with ⟨e, -⟩ | ⟨-, h95, e, hl, -⟩
  · exact absurd e h0
  obtain ⟨x, hx⟩ := restC h95 hl (96 - Q.log2) 10000 P 0 (by omega) (by omega) hP (Nat.two_pow_pos 96)
  rw [show 96 - Q.log2 + Q.log2 = 96 by omega, show nI 96 + (-1) = (95 : Int32) from rfl] at hx
  unfold q_X4_leaveRest t_X4_become
  rw [degC hQ, e]
  show Option.bind (q_X4_leaveRest_L15 (nI Q.log2) (pL Q) (pH Q) 10000 95 (pL 0) (pH 0) (pL P) (pH P)) _ = _
  rw [hx]
  rfl
theorem degG {F : Nat → Int32 → Option Int32} {P : Nat} (hP : P < 2 ^ 96) (h1 : ∀ f, F (f + 1) (-1) = some (-1)) (h2 : ∀ f k, k < 96 → P.testBit k = true → F (f + 1) (nI k) = some (nI k)) (h3 : ∀ f k, k < 96 → P.testBit k = false → F (f + 1) (nI k) = F f (nI k + (-1))) : F 10000 95 = some (dgI P) := by
  have key : ∀ k f, k ≤ 96 → k < f → P < 2 ^ k → F f (nI k + (-1)) = some (dgI P) := by
    intro k
    induction k with
    | zero =>
      intro f _ hf h
      obtain ⟨f, rfl⟩ : ∃ g, f = g + 1 := ⟨f - 1, by omega⟩
      have : P = 0 := by omega
      subst this
      exact h1 f
    | succ k ih =>
      intro f hk hf h
      obtain ⟨f, rfl⟩ : ∃ g, f = g + 1 := ⟨f - 1, by omega⟩
      rw [nI_m1 (by omega), show k + 1 - 1 = k by omega]
      cases c : P.testBit k with
      | true => rw [h2 f k (by omega) c, log_of (Nat.ge_two_pow_of_testBit c) h]
      | false => rw [h3 f k (by omega) c]; exact ih f (by omega) (by omega) (lt_of_top h (by rw [c]; decide))
  exact key 96 10000 (by omega) (by omega) hP
theorem degOne {P : Nat} {a : Nat → Int32} (hP : P < 2 ^ 96) (h : RW a P) : q_X12_degreeOne a = some (dgI P) := by
  unfold q_X12_degreeOne
  rw [degG (F := q_X12_degreeOne_L3 a) hP (fun f => by rw [q_X12_degreeOne_L3, if_pos (by decide)])
    (fun f k hk c => by rw [q_X12_degreeOne_L3, if_neg (nI_pos (by omega)), if_pos (xinI (by omega) (by omega)), nI_clamp (by omega), h k hk, c, if_pos (show ¬ nI true.toNat = 0 by decide)])
    (fun f k hk c => by rw [q_X12_degreeOne_L3, if_neg (nI_pos (by omega)), if_pos (xinI (by omega) (by omega)), nI_clamp (by omega), h k hk, c, if_neg (show ¬ ¬ nI false.toNat = 0 from fun h => h rfl)])]
  rfl
theorem degTwo {P : Nat} {a : Nat → Int32} (hP : P < 2 ^ 96) (h : RW a P) : q_X12_degreeTwo a = some (dgI P) := by
  unfold q_X12_degreeTwo
  rw [degG (F := q_X12_degreeTwo_L3 a) hP (fun f => by rw [q_X12_degreeTwo_L3, if_pos (by decide)])
    (fun f k hk c => by rw [q_X12_degreeTwo_L3, if_neg (nI_pos (by omega)), if_pos (xinI (by omega) (by omega)), nI_clamp (by omega), h k hk, c, if_pos (show ¬ nI true.toNat = 0 by decide)])
    (fun f k hk c => by rw [q_X12_degreeTwo_L3, if_neg (nI_pos (by omega)), if_pos (xinI (by omega) (by omega)), nI_clamp (by omega), h k hk, c, if_neg (show ¬ ¬ nI false.toNat = 0 from fun h => h rfl)])]
  rfl
theorem div60 {Q A k b : Nat} {a55 a54 : Nat → Int32} (hb : k + b ≤ 95) (hQ : Q < 2 ^ (b + 1)) (ha : RW a55 Q) (hA : RW a54 A) :
    ∃ r : Int32 × (Nat → Int32), q_X12_divides_L60 (nI b) (nI k) a55 10000 0 a54 = some r ∧ RW r.2 (A ^^^ Q * 2 ^ k) := by
  obtain ⟨r, hr, g⟩ := loop_inv (F := fun f (x : Int32 × (Nat → Int32)) => q_X12_divides_L60 (nI b) (nI k) a55 f x.1 x.2)
    (fun i x => x.1 = nI i ∧ ∀ t, t < 96 → x.2 t = nI (A.testBit t ^^ (decide (k ≤ t) && (decide (t - k < i) && Q.testBit (t - k)))).toNat)
    (fun r => RW r.2 (A ^^^ Q * 2 ^ k)) (b + 1)
    (fun f x h => by
      obtain ⟨c, a⟩ := x
      obtain ⟨e1, e2⟩ := h
      have e1 : c = nI (b + 1) := e1
      subst e1
      refine ⟨_, by show q_X12_divides_L60 _ _ _ (f + 1) (nI _) a = _; rw [q_X12_divides_L60, if_pos (by rw [ltI, nI_toInt (by omega), nI_toInt (by omega)]; omega)], ?_⟩
      intro t ht
      show a t = _
      rw [show a t = _ from e2 t ht, Nat.testBit_xor, Nat.testBit_mul_two_pow]
      congr 3
      congr 1
      by_cases c : t - k < b + 1
      · rw [decide_eq_true c]; rfl
      · rw [Nat.testBit_lt_two_pow (Nat.lt_of_lt_of_le hQ (Nat.pow_le_pow_right (by decide) (show b + 1 ≤ t - k by omega))), Bool.and_false])
    (fun f i x hi h => by
      obtain ⟨c, a⟩ := x
      obtain ⟨e1, e2⟩ := h
      have e1 : c = nI i := e1
      subst e1
      refine Or.inr ⟨(nI (i + 1), upd a (k + i) (a (k + i) ^^^ a55 i)), ?_, rfl, ?_⟩
      · show q_X12_divides_L60 _ _ _ (f + 1) (nI i) a = q_X12_divides_L60 _ _ _ f (nI (i + 1)) _
        rw [q_X12_divides_L60, if_neg (show ¬ nI b < nI i by rw [ltI, nI_toInt (by omega), nI_toInt (by omega)]; omega), nI_add, if_pos (xinI (by omega) (by omega)), if_pos (xinI (by omega) (by omega)), if_pos (xinI (by omega) (by omega)), nI_clamp (by omega), nI_clamp (by omega), nI_1]
      · intro t ht
        show upd a _ _ t = _
        by_cases e : t = k + i
        · subst e
          rw [upd_eq, show a (k + i) = _ from e2 (k + i) ht, ha i (by omega), nI_xor, xor_toNat, show k + i - k = i by omega, decide_eq_true (show k ≤ k + i by omega), decide_eq_false (show ¬ i < i by omega), decide_eq_true (show i < i + 1 by omega)]
          cases A.testBit (k + i) <;> cases Q.testBit i <;> rfl
        · rw [upd_ne e, show a t = _ from e2 t ht]
          by_cases c : k ≤ t
          · rw [show decide (t - k < i + 1) = decide (t - k < i) from decide_eq_decide.mpr (by omega)]
          · rw [decide_eq_false c, Bool.false_and, Bool.false_and])
    10000 0 (nI 0, a54) ⟨rfl, fun t ht => by show a54 t = _; rw [hA t ht, decide_eq_false (show ¬ t - k < 0 by omega), Bool.false_and, Bool.and_false, Bool.xor_false]⟩ (Nat.zero_le _) (by omega)
  exact ⟨r, hr, g⟩
theorem div33 {Q b : Nat} {a55 : Nat → Int32} (hb : b ≤ 95) (hQ : Q < 2 ^ (b + 1)) (ha : RW a55 Q) : ∀ k f A T a56 a54, k + b ≤ 96 → k < f → RW a54 A → RW a56 T → (∀ t, t < k → T.testBit t = false) →
    ∃ x : Int32 × (Nat → Int32) × (Nat → Int32), q_X12_divides_L33 (nI b) a55 f (nI k + (-1)) a56 a54 = some x ∧ RW x.2.1 (dv Q b k A T).2 ∧ RW x.2.2 (dv Q b k A T).1 := by
  intro k
  induction k with
  | zero =>
    intro f A T a56 a54 hk hf hA hT _
    obtain ⟨f, rfl⟩ : ∃ g, f = g + 1 := ⟨f - 1, by omega⟩
    exact ⟨_, by rw [q_X12_divides_L33, if_pos (by decide)], hT, hA⟩
  | succ k ih =>
    intro f A T a56 a54 hk hf hA hT h0
    obtain ⟨f, rfl⟩ : ∃ g, f = g + 1 := ⟨f - 1, by omega⟩
    rw [nI_m1 (by omega), show k + 1 - 1 = k by omega, dv, q_X12_divides_L33, if_neg (nI_pos (by omega)), nI_add, if_pos (xinI (by omega) (by omega)), nI_clamp (by omega), nI_clamp (by omega), hA (k + b) (by omega)]
    by_cases c : A.testBit (k + b) = true
    · obtain ⟨y, y1, y2⟩ := div60 (by omega) hQ ha hA (k := k) (b := b)
      rw [c, if_pos (show ¬ nI true.toNat = 0 by decide), if_pos (xinI (by omega) (by omega)), y1, Option.bind_some, if_pos rfl]
      refine ih f _ _ _ _ (by omega) (by omega) y2 ?_ ?_
      · intro t ht
        by_cases e : t = k
        · subst e
          rw [upd_eq, Nat.testBit_xor, h0 t (by omega), Nat.testBit_two_pow_self]
          rfl
        · rw [upd_ne e, hT t ht, Nat.testBit_xor, Nat.testBit_two_pow_of_ne (Ne.symm e), Bool.xor_false]
      · intro t ht
        rw [Nat.testBit_xor, h0 t (by omega), Nat.testBit_two_pow_of_ne (by omega)]
        rfl
    · rw [Bool.eq_false_iff.mpr c, if_neg (show ¬ ¬ nI false.toNat = 0 from fun h => h rfl), if_neg (by decide)]
      exact ih f _ _ _ _ (by omega) (by omega) hA hT (fun t ht => h0 t (by omega))
theorem neg96 : ∀ b, b < 96 → ∀ a, a < b → nI a - nI b < 0 := by decide +kernel
theorem neg1b : ∀ b, b < 96 → (-1 : Int32) - nI b < 0 := by decide +kernel
theorem div7 (a56 : Nat → Int32) : ∃ r : Int32 × (Nat → Int32), q_X12_divides_L7 10000 0 a56 = some r ∧ RW r.2 0 := by
  obtain ⟨r, r1, r2, -⟩ := layT (F := q_X12_divides_L7) (s := 0) (a53 := a56) (v := fun k => 0)
    (fun f a => by rw [q_X12_divides_L7, if_pos (show (96 : Int32) ≤ nI 96 by decide)])
    (fun f k v hk => by
      rw [q_X12_divides_L7, if_neg (show ¬ (96 : Int32) ≤ nI k from nI_ge (b := 96) hk (by decide)), if_pos (xinI (by omega) (by omega)), nI_clamp (by omega), nI_1, Nat.mul_zero, Nat.zero_add])
  refine ⟨r, r1, fun t ht => ?_⟩
  have := r2 t ht
  rw [Nat.mul_zero, Nat.zero_add] at this
  rw [this, Nat.zero_testBit]
  rfl
theorem dividesM {P Q : Nat} {a54 a55 a56 : Nat → Int32} (hP : P < 2 ^ 96) (hQ : Q < 2 ^ 96) (h0 : Q ≠ 0) (hA : RW a54 P) (ha : RW a55 Q) :
    ∃ x : (Nat → Int32) × (Nat → Int32), q_X12_divides a55 a56 a54 = some x ∧ RW x.1 (dv Q Q.log2 (96 - Q.log2) P 0).2 ∧ RW x.2 (dv Q Q.log2 (96 - Q.log2) P 0).1 := by
  rcases dg_cases hQ with ⟨e, -⟩ | ⟨-, h95, e, hl, -⟩
  · exact absurd e h0
  obtain ⟨r, r1, r2⟩ := div7 a56
  have key : ∃ k, k + Q.log2 ≤ 96 ∧ P < 2 ^ (k + Q.log2) ∧ (∃ y : Int32 × (Nat → Int32) × (Nat → Int32), q_X12_divides_L33 (nI Q.log2) a55 10000 (dgI P - nI Q.log2) r.2 a54 = some y ∧ RW y.2.1 (dv Q Q.log2 k P 0).2 ∧ RW y.2.2 (dv Q Q.log2 k P 0).1) := by
    rcases dg_cases hP with ⟨rfl, e'⟩ | ⟨h0', h95', e', hl', -⟩
    · refine ⟨0, by omega, Nat.two_pow_pos _, ?_⟩
      rw [e', q_X12_divides_L33, if_pos (neg1b _ (by omega))]
      exact ⟨_, rfl, r2, hA⟩
    · by_cases c : P.log2 < Q.log2
      · refine ⟨0, by omega, Nat.lt_of_lt_of_le hl' (Nat.pow_le_pow_right (by decide) (by omega)), ?_⟩
        rw [e', q_X12_divides_L33, if_pos (neg96 _ (by omega) _ c)]
        exact ⟨_, rfl, r2, hA⟩
      · refine ⟨P.log2 - Q.log2 + 1, by omega, by rw [show P.log2 - Q.log2 + 1 + Q.log2 = P.log2 + 1 by omega]; exact hl', ?_⟩
        have := div33 h95 hl ha (P.log2 - Q.log2 + 1) 10000 P 0 r.2 a54 (by omega) (by omega) hA r2 (fun t _ => Nat.zero_testBit t)
        rw [nI_m1 (by omega), Nat.add_sub_cancel] at this
        rw [e', nI_sub (by omega)]
        exact this
  obtain ⟨k, k1, k2, y, y1, y2, y3⟩ := key
  refine ⟨(y.2.1, y.2.2), ?_, ?_, ?_⟩
  · unfold q_X12_divides
    rw [degTwo hQ ha, Option.bind_some, r1, Option.bind_some, degOne hP hA, Option.bind_some, e, y1, Option.bind_some]
  · have := dv_skip (Q := Q) (b := Q.log2) (k := k) (96 - Q.log2 - k) P 0 k2
    rw [show k + (96 - Q.log2 - k) = 96 - Q.log2 by omega] at this
    rw [this]; exact y2
  · have := dv_skip (Q := Q) (b := Q.log2) (k := k) (96 - Q.log2 - k) P 0 k2
    rw [show k + (96 - Q.log2 - k) = 96 - Q.log2 by omega] at this
    rw [this]; exact y3
theorem layBothT {s u P Q : Nat} {a53 a54 a55 : Nat → Int32} (hs : s < 8) (hu : u < 8) (p3 : ∀ k, k < 96 → a53 (96 * s + k) = nI (P / 2 ^ k % 2)) (q3 : ∀ k, k < 96 → a53 (96 * u + k) = nI (Q / 2 ^ k % 2)) :
    ∃ r : (Nat → Int32) × (Nat → Int32), q_X12_layBoth (nI s) (nI u) a53 a54 a55 = some r ∧ RW r.1 P ∧ RW r.2 Q := by
  obtain ⟨r, hr, g1, g2⟩ := loop_inv (F := fun f (x : Int32 × (Nat → Int32) × (Nat → Int32)) => q_X12_layBoth_L2 (nI s) (nI u) a53 f x.1 x.2.1 x.2.2)
    (fun i x => x.1 = nI i ∧ (∀ t, t < i → x.2.1 t = nI (P.testBit t).toNat) ∧ ∀ t, t < i → x.2.2 t = nI (Q.testBit t).toNat)
    (fun r => RW r.2.1 P ∧ RW r.2.2 Q) 96
    (fun f x h => by
      obtain ⟨c, a, a'⟩ := x
      obtain ⟨e1, e2, e3⟩ := h
      have e1 : c = nI 96 := e1
      subst e1
      exact ⟨_, by show q_X12_layBoth_L2 _ _ _ (f + 1) (nI 96) a a' = _; rw [q_X12_layBoth_L2, if_pos (by decide)], e2, e3⟩)
    (fun f i x hi h => by
      obtain ⟨c, a, a'⟩ := x
      obtain ⟨e1, e2, e3⟩ := h
      have e1 : c = nI i := e1
      subst e1
      refine Or.inr ⟨(nI (i + 1), upd a i (nI (P.testBit i).toNat), upd a' i (nI (Q.testBit i).toNat)), ?_, rfl, ?_, ?_⟩
      · show q_X12_layBoth_L2 _ _ _ (f + 1) (nI i) a a' = q_X12_layBoth_L2 _ _ _ f (nI (i + 1)) _ _
        rw [q_X12_layBoth_L2, if_neg (show ¬ (96 : Int32) ≤ nI i from nI_ge (b := 96) hi (by decide)), k96, nI_mul, nI_mul, nI_add, nI_add, if_pos (xinI (by omega) (by omega)), if_pos (xinI (by omega) (by omega)), if_pos (xinI (by omega) (by omega)), if_pos (xinI (by omega) (by omega)), nI_clamp (by omega), nI_clamp (by omega), nI_clamp (by omega), p3 i hi, q3 i hi, bt_tb, bt_tb, nI_1]
      · intro t ht
        show upd a _ _ t = _
        by_cases e : t = i
        · subst e; exact upd_eq
        · rw [upd_ne e]; exact e2 t (by omega)
      · intro t ht
        show upd a' _ _ t = _
        by_cases e : t = i
        · subst e; exact upd_eq
        · rw [upd_ne e]; exact e3 t (by omega))
    10000 0 (nI 0, a54, a55) ⟨rfl, fun t ht => absurd ht (Nat.not_lt_zero t), fun t ht => absurd ht (Nat.not_lt_zero t)⟩ (Nat.zero_le _) (by omega)
  refine ⟨(r.2.1, r.2.2), ?_, g1, g2⟩
  have hr' : q_X12_layBoth_L2 (nI s) (nI u) a53 10000 0 a54 a55 = some r := hr
  unfold q_X12_layBoth
  rw [hr', Option.bind_some]
theorem div75 {s u P Q : Nat} {a53 a54 a56 : Nat → Int32} (hs : s < 8) (hu : u < 8) (hsu : s ≠ u) (hP : RW a56 P) (hQ : RW a54 Q) :
    ∃ r : Int32 × (Nat → Int32), q_X12_divide_L75 (nI s) (nI u) a54 a56 10000 0 a53 = some r ∧ (∀ k, k < 96 → r.2 (96 * s + k) = nI (P / 2 ^ k % 2)) ∧ (∀ k, k < 96 → r.2 (96 * u + k) = nI (Q / 2 ^ k % 2)) ∧ ∀ t, (t < 96 * s ∨ 96 * s + 96 ≤ t) → (t < 96 * u ∨ 96 * u + 96 ≤ t) → r.2 t = a53 t := by
  obtain ⟨r, hr, g⟩ := loop_inv (F := fun f (x : Int32 × (Nat → Int32)) => q_X12_divide_L75 (nI s) (nI u) a54 a56 f x.1 x.2)
    (fun i x => x.1 = nI i ∧ (∀ k, k < i → x.2 (96 * s + k) = nI (P / 2 ^ k % 2)) ∧ (∀ k, k < i → x.2 (96 * u + k) = nI (Q / 2 ^ k % 2)) ∧ ∀ t, (t < 96 * s ∨ 96 * s + 96 ≤ t) → (t < 96 * u ∨ 96 * u + 96 ≤ t) → x.2 t = a53 t)
    (fun r => (∀ k, k < 96 → r.2 (96 * s + k) = nI (P / 2 ^ k % 2)) ∧ (∀ k, k < 96 → r.2 (96 * u + k) = nI (Q / 2 ^ k % 2)) ∧ ∀ t, (t < 96 * s ∨ 96 * s + 96 ≤ t) → (t < 96 * u ∨ 96 * u + 96 ≤ t) → r.2 t = a53 t) 96
    (fun f x h => by
      obtain ⟨c, a⟩ := x
      obtain ⟨e1, e2⟩ := h
      have e1 : c = nI 96 := e1
      subst e1
      exact ⟨_, by show q_X12_divide_L75 _ _ _ _ (f + 1) (nI 96) a = _; rw [q_X12_divide_L75, if_pos (by decide)], e2⟩)
    (fun f i x hi h => by
      obtain ⟨c, a⟩ := x
      obtain ⟨e1, e2, e3, e4⟩ := h
      have e1 : c = nI i := e1
      subst e1
      refine Or.inr ⟨(nI (i + 1), upd (upd a (96 * s + i) (nI (P / 2 ^ i % 2))) (96 * u + i) (nI (Q / 2 ^ i % 2))), ?_, rfl, ?_, ?_, ?_⟩
      · show q_X12_divide_L75 _ _ _ _ (f + 1) (nI i) a = q_X12_divide_L75 _ _ _ _ f (nI (i + 1)) _
        rw [q_X12_divide_L75, if_neg (show ¬ (96 : Int32) ≤ nI i from nI_ge (b := 96) hi (by decide)), k96, nI_mul, nI_mul, nI_add, nI_add, if_pos (xinI (by omega) (by omega)), if_pos (xinI (by omega) (by omega)), if_pos (xinI (by omega) (by omega)), if_pos (xinI (by omega) (by omega)), nI_clamp (by omega), nI_clamp (by omega), nI_clamp (by omega), hP i hi, hQ i hi, bt_tb, bt_tb, nI_1]
      · intro k hk
        show upd (upd a _ _) _ _ _ = _
        rw [upd_ne (by omega)]
        by_cases e : k = i
        · subst e; exact upd_eq
        · rw [upd_ne (by omega)]; exact e2 k (by omega)
      · intro k hk
        show upd (upd a _ _) _ _ _ = _
        by_cases e : k = i
        · subst e; exact upd_eq
        · rw [upd_ne (by omega), upd_ne (by omega)]; exact e3 k (by omega)
      · intro t h1 h2
        show upd (upd a _ _) _ _ _ = _
        rw [upd_ne (by omega), upd_ne (by omega)]; exact e4 t h1 h2)
    10000 0 (nI 0, a53) ⟨rfl, fun t ht => absurd ht (Nat.not_lt_zero t), fun t ht => absurd ht (Nat.not_lt_zero t), fun _ _ _ => rfl⟩ (Nat.zero_le _) (by omega)
  exact ⟨r, hr, g⟩
theorem isZ {P : Nat} (hP : P < 2 ^ 96) : t_X4_isZero (pL P) (pH P) = if P = 0 then 1 else 0 := by
  unfold t_X4_isZero
  have e1 : lg_cmp (pL P) 0 = 0 ↔ P % 2 ^ 64 = 0 := by
    rw [lg_eq, show (0 : Int64) = lN 0 from rfl]
    unfold pL
    rw [lN_inj (by omega) (by omega)]
  have e2 : lg_cmp (pH P) 0 = 0 ↔ P / 2 ^ 64 = 0 := by
    rw [lg_eq, show (0 : Int64) = lN 0 from rfl]
    unfold pH
    rw [lN_inj (by omega) (by omega)]
  simp only [e1, e2]
  by_cases c : P = 0
  · subst c; rfl
  · rw [if_neg c]
    by_cases c1 : P % 2 ^ 64 = 0
    · rw [if_neg (fun h => h c1), if_pos (by omega)]
    · rw [if_pos c1]
theorem putI2 {s t T R : Nat} {a10 a11 : Nat → Int64} {a53 g : Nat → Int32} (hT : T < 2 ^ 96) (hR : R < 2 ^ 96) (h : ISh a10 a11 a53) (g1 : ∀ k, k < 96 → g (96 * s + k) = nI (T / 2 ^ k % 2)) (g2 : ∀ k, k < 96 → g (96 * t + k) = nI (R / 2 ^ k % 2)) (g3 : ∀ i, (i < 96 * s ∨ 96 * s + 96 ≤ i) → (i < 96 * t ∨ 96 * t + 96 ≤ i) → g i = a53 i) : ISh (vp_updL (vp_updL a10 s (pL T)) t (pL R)) (vp_updL (vp_updL a11 s (pH T)) t (pH R)) g := by
  intro j hj
  by_cases j1 : j = t
  · subst j1
    exact ⟨R, hR, updL_eq, updL_eq, g2⟩
  · by_cases j2 : j = s
    · subst j2
      exact ⟨T, hT, by rw [updL_ne j1]; exact updL_eq, by rw [updL_ne j1]; exact updL_eq, g1⟩
    · obtain ⟨F, f1, f2, f3, f4⟩ := h j hj
      refine ⟨F, f1, by rw [updL_ne j1, updL_ne j2]; exact f2, by rw [updL_ne j1, updL_ne j2]; exact f3, fun k hk => ?_⟩
      rw [g3 _ (by omega) (by omega)]
      exact f4 k hk
theorem M_18 : MS_18 := by
  intro S l4 a10 a11 c12_0 c12_1 c13_0 c13_1 c14_0 c14_1 a66 a53 a54 a55 a56 c1_1 a2 c48_17 a49 c3_1 c3_2 c4_0 a5 a6 c48_20 a52 c8_0 c8_1 c8_2 c8_3 c8_4 c8_5 c48_24 c48_25 c48_26 c48_27 c48_28 c7_0 c7_1 c7_2 c7_3 c7_4 c7_5 c17_1 a18 c48_21 a57 c23_4 c24_0 a25 a26 c48_22 a58 a22 x1 x2 x3 x4 x5 hB hP hK h7 hS hD hW hC
  unfold q_case18
  generalize S.2 (l4 + (1 : Int32)).toNatClampNeg = p1
  generalize S.2 (l4 + (2 : Int32)).toNatClampNeg = p2
  generalize S.2 (l4 + (3 : Int32)).toNatClampNeg = p3
  generalize S.2 (l4 + (4 : Int32)).toNatClampNeg = p4
  have good : (∃ s t u v, s < 8 ∧ t < 8 ∧ u < 8 ∧ v < 8 ∧ p1 = nI s ∧ p2 = nI t ∧ p3 = nI u ∧ p4 = nI v) ∨ (q_X11_divide p1 p2 p3 p4 a10 a11 c12_0 c12_1 c13_0 c13_1 c14_0 c14_1 = some (.inl 2, (a10, a11, c12_0, c12_1, c13_0, c13_1, c14_0, c14_1)) ∧ q_X12_divide p1 p2 p3 p4 a53 a54 a55 a56 = some ((t_X12_fails 1).1, (t_X12_fails 1).2, a53, a54, a55, a56)) := by
    unfold q_X11_divide q_X12_divide
    rcases cls p1 (n := 8) (by omega) with ⟨s, hs, rfl⟩ | h
    · rcases cls p2 (n := 8) (by omega) with ⟨t, ht, rfl⟩ | h
      · rcases cls p3 (n := 8) (by omega) with ⟨u, hu, rfl⟩ | h
        · rcases cls p4 (n := 8) (by omega) with ⟨v, hv, rfl⟩ | h
          · exact Or.inl ⟨s, t, u, v, hs, ht, hu, hv, rfl, rfl, rfl, rfl⟩
          · right
            rw [rsT hs, rsT ht, takeF (Or.inr ⟨u, hu, rfl, h⟩), msT hs, ite1e, msT ht, ite1e, msT hu, ite1e, msF h, ite00]
            exact ⟨rfl, rfl⟩
        · right
          rw [rsT hs, rsT ht, takeF (Or.inl h), msT hs, ite1e, msT ht, ite1e, msF h, ite0e]
          exact ⟨rfl, rfl⟩
      · right
        rw [rsT hs, rsF h, msT hs, ite1e, msF h, ite0e]
        exact ⟨rfl, rfl⟩
    · right
      rw [rsF h, msF h, ite0e]
      exact ⟨rfl, rfl⟩
  rcases good with ⟨s, t, u, v, hs, ht, hu, hv, rfl, rfl, rfl, rfl⟩ | ⟨h1, h2⟩
  · obtain ⟨P, hP, b1, b2, b3⟩ := hS u hu
    obtain ⟨Q, hQ, q1, q2, q3⟩ := hS v hv
    have b1 : a10 u = pL P := b1
    have b2 : a11 u = pH P := b2
    have q1 : a10 v = pL Q := q1
    have q2 : a11 v = pH Q := q2
    by_cases c : s = t
    · subst c
      have e1 : q_X11_divide (nI s) (nI s) (nI u) (nI v) a10 a11 c12_0 c12_1 c13_0 c13_1 c14_0 c14_1 = some (.inl 0, (a10, a11, pL P, pH P, pL Q, pH Q, c14_0, c14_1)) := by
        unfold q_X11_divide
        rw [rsT hs, takeT hu hv, b1, b2, q1, q2]
        exact if_neg (fun h => h rfl)
      have e2 : q_X12_divide (nI s) (nI s) (nI u) (nI v) a53 a54 a55 a56 = some ((t_X12_fails 2).1, (t_X12_fails 2).2, a53, a54, a55, a56) := by
        unfold q_X12_divide
        rw [msT hs, ite1e, ite1e, msT hu, ite1e, msT hv, ite10, if_neg (fun h => h rfl)]
      simp only [x1, x2, x3, x4, if_true, q_L_divide, e1, xbnd, Option.bind_some, e2, t_X12_fails, t_X12_thrown]
      exact ⟨_, rfl, hS⟩
    · have hne := ne_of_nI c (by omega) (by omega)
      by_cases z : Q = 0
      · subst z
        have e1 : q_X11_divide (nI s) (nI t) (nI u) (nI v) a10 a11 c12_0 c12_1 c13_0 c13_1 c14_0 c14_1 = some (.inl 4, (a10, a11, pL P, pH P, pL 0, pH 0, c14_0, c14_1)) := by
          unfold q_X11_divide
          rw [rsT hs, rsT ht, takeT hu hv, b1, b2, q1, q2]
          simp only [xbnd, if_pos hne, isZ hQ, if_true, ite1e]
        have e2 : q_X12_divide (nI s) (nI t) (nI u) (nI v) a53 a54 a55 a56 = some ((t_X12_fails 3).1, (t_X12_fails 3).2, a53, a54, a55, a56) := by
          unfold q_X12_divide
          rw [msT hs, ite1e, msT ht, ite1e, msT hu, ite1e, msT hv, ite10, if_pos hne, degM hv hQ q3, Option.bind_some]
          exact if_neg (by decide)
        simp only [x1, x2, x3, x4, if_true, q_L_divide, e1, xbnd, Option.bind_some, e2, t_X12_fails, t_X12_thrown]
        exact ⟨_, rfl, hS⟩
      · rcases dg_cases hQ with ⟨e, -⟩ | ⟨-, h95, e, hl, hg⟩
        · exact absurd e z
        obtain ⟨g1, g2⟩ := dv_lt hl (96 - Q.log2) P 0 (by omega) hP (Nat.two_pow_pos 96)
        obtain ⟨y, y1, y2, y3⟩ := layBothT (a54 := a54) (a55 := a55) hu hv b3 q3
        obtain ⟨k, k1, k2, k3⟩ := dividesM (a56 := a56) hP hQ z y2 y3
        have hlv := leaveC hP hQ z
        generalize (dv Q Q.log2 (96 - Q.log2) P 0).1 = R at g1 k3 hlv
        generalize (dv Q Q.log2 (96 - Q.log2) P 0).2 = T at g2 k2 hlv
        obtain ⟨w, w1, w2, w3, w4⟩ := div75 (a53 := a53) hs ht c k2 k3
        have e1 : q_X11_divide (nI s) (nI t) (nI u) (nI v) a10 a11 c12_0 c12_1 c13_0 c13_1 c14_0 c14_1 = some (.inr (dgI R), (vp_updL (vp_updL a10 s (pL T)) t (pL R), vp_updL (vp_updL a11 s (pH T)) t (pH R), pL R, pH R, pL Q, pH Q, pL T, pH T)) := by
          unfold q_X11_divide
          rw [rsT hs, rsT ht, takeT hu hv, b1, b2, q1, q2]
          simp only [xbnd, if_pos hne, isZ hQ, if_neg z, if_true, hlv, Option.bind_some, putS hs g2, putS ht g1]
        have e2 : q_X12_divide (nI s) (nI t) (nI u) (nI v) a53 a54 a55 a56 = some ((t_X12_tells (dgI R)).1, (t_X12_tells (dgI R)).2, w.2, k.2, y.2, k.1) := by
          unfold q_X12_divide
          rw [msT hs, ite1e, msT ht, ite1e, msT hu, ite1e, msT hv, ite10, if_pos hne, degM hv hQ q3, Option.bind_some, e, if_pos (show (0 : Int32) ≤ nI Q.log2 from nI_le (a := 0) (Nat.zero_le _) (by omega)), y1, Option.bind_some, k1, Option.bind_some, w1, Option.bind_some, degM ht g1 w3, Option.bind_some]
        simp only [x1, x2, x3, x4, if_true, q_L_divide, e1, xbnd, Option.bind_some, e2, t_X12_tells, t_X12_thrown, ite00, c0, updL_eq, lgs]
        exact ⟨_, rfl, putI2 g2 g1 hS w2 w3 w4⟩
  · simp only [x1, x2, x3, x4, if_true, q_L_divide, h1, xbnd, Option.bind_some, h2, t_X12_fails, t_X12_thrown]
    exact ⟨_, rfl, hS⟩

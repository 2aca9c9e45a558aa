/-! Products of polynomials over two; what divides what. -/
theorem cm_T {P Q k : Nat} (h : P.testBit k = true) : cm P Q (k + 1) = cm P Q k ^^^ Q * 2 ^ k := if_pos (by rw [tb_div, h]; rfl)
theorem cm_F {P Q k : Nat} (h : P.testBit k = false) : cm P Q (k + 1) = cm P Q k := if_neg (by rw [tb_div, h]; decide)
theorem cm_cong {P P' Q : Nat} : ∀ k, (∀ i, i < k → P.testBit i = P'.testBit i) → cm P Q k = cm P' Q k := by
  intro k
  induction k with
  | zero => intro _; rfl
  | succ k ih =>
    intro h
    have e := ih (fun i hi => h i (by omega))
    have hk := h k (by omega)
    cases c : P.testBit k with
    | true => rw [cm_T c, cm_T (hk.symm.trans c), e]
    | false => rw [cm_F c, cm_F (hk.symm.trans c), e]
theorem cm_more {P Q k : Nat} (h : P < 2 ^ k) : ∀ j, cm P Q (k + j) = cm P Q k := by
  intro j
  induction j with
  | zero => rfl
  | succ j ih => rw [← Nat.add_assoc, cm_F (Nat.testBit_lt_two_pow (Nat.lt_of_lt_of_le h (Nat.pow_le_pow_right (by decide) (by omega)))), ih]
theorem cm_ge {P Q k K : Nat} (h : P < 2 ^ k) (hk : k ≤ K) : cm P Q K = cm P Q k := by
  have := cm_more (Q := Q) h (K - k)
  rw [show k + (K - k) = K by omega] at this
  exact this
theorem cm_0 (Q k : Nat) : cm 0 Q k = 0 := cm_ge (k := 0) (by decide) (Nat.zero_le _)
theorem cm_z (P : Nat) : ∀ k, cm P 0 k = 0 := by
  intro k
  induction k with
  | zero => rfl
  | succ k ih =>
    cases c : P.testBit k with
    | true => rw [cm_T c, ih, Nat.zero_mul]; rfl
    | false => rw [cm_F c, ih]
theorem xr1 (x y s : Nat) : (x ^^^ s) ^^^ (y ^^^ s) = x ^^^ y := by
  apply Nat.eq_of_testBit_eq
  intro i
  rw [Nat.testBit_xor, Nat.testBit_xor, Nat.testBit_xor, Nat.testBit_xor]
  cases x.testBit i <;> cases y.testBit i <;> cases s.testBit i <;> rfl
theorem xr2 (x y s : Nat) : (x ^^^ y) ^^^ s = (x ^^^ s) ^^^ y := by
  apply Nat.eq_of_testBit_eq
  intro i
  rw [Nat.testBit_xor, Nat.testBit_xor, Nat.testBit_xor, Nat.testBit_xor]
  cases x.testBit i <;> cases y.testBit i <;> cases s.testBit i <;> rfl
theorem shx (x y k : Nat) : (x ^^^ y) * 2 ^ k = x * 2 ^ k ^^^ y * 2 ^ k := by
  apply Nat.eq_of_testBit_eq
  intro i
  rw [Nat.testBit_xor, Nat.testBit_mul_two_pow, Nat.testBit_mul_two_pow, Nat.testBit_mul_two_pow, Nat.testBit_xor]
  cases decide (k ≤ i) <;> cases x.testBit (i - k) <;> cases y.testBit (i - k) <;> rfl
theorem cm_xL (P R Q : Nat) : ∀ k, cm (P ^^^ R) Q k = cm P Q k ^^^ cm R Q k := by
  intro k
  induction k with
  | zero => exact (Nat.xor_self 0).symm
  | succ k ih =>
    have hx : (P ^^^ R).testBit k = (P.testBit k ^^ R.testBit k) := Nat.testBit_xor ..
    cases c : P.testBit k with
    | true =>
      cases d : R.testBit k with
      | true => rw [c, d] at hx; rw [cm_T c, cm_T d, cm_F hx, ih, xr1]
      | false => rw [c, d] at hx; rw [cm_T c, cm_F d, cm_T hx, ih, xr2]
    | false =>
      cases d : R.testBit k with
      | true => rw [c, d] at hx; rw [cm_F c, cm_T d, cm_T hx, ih, Nat.xor_assoc]
      | false => rw [c, d] at hx; rw [cm_F c, cm_F d, cm_F hx, ih]
theorem xr4 (x y s t : Nat) : (x ^^^ y) ^^^ (s ^^^ t) = (x ^^^ s) ^^^ (y ^^^ t) := by
  apply Nat.eq_of_testBit_eq
  intro i
  rw [Nat.testBit_xor, Nat.testBit_xor, Nat.testBit_xor, Nat.testBit_xor, Nat.testBit_xor, Nat.testBit_xor]
  cases x.testBit i <;> cases y.testBit i <;> cases s.testBit i <;> cases t.testBit i <;> rfl
theorem cm_xR (P Q R : Nat) : ∀ k, cm P (Q ^^^ R) k = cm P Q k ^^^ cm P R k := by
  intro k
  induction k with
  | zero => exact (Nat.xor_self 0).symm
  | succ k ih =>
    cases c : P.testBit k with
    | true => rw [cm_T c, cm_T c, cm_T c, ih, shx, xr4]
    | false => rw [cm_F c, cm_F c, cm_F c, ih]
theorem cm_shR (P Q j : Nat) : ∀ k, cm P (Q * 2 ^ j) k = cm P Q k * 2 ^ j := by
  intro k
  induction k with
  | zero => exact (Nat.zero_mul _).symm
  | succ k ih =>
    cases c : P.testBit k with
    | true => rw [cm_T c, cm_T c, ih, shx, Nat.mul_right_comm]
    | false => rw [cm_F c, cm_F c, ih]
theorem cm_shL (P Q j : Nat) : ∀ k, cm (P * 2 ^ j) Q (k + j) = cm P Q k * 2 ^ j := by
  intro k
  induction k with
  | zero =>
    rw [Nat.zero_add, cm_cong (P' := 0) j (fun i hi => by rw [Nat.testBit_mul_two_pow, decide_eq_false (show ¬ j ≤ i by omega), Nat.zero_testBit]; rfl), cm_0]
    exact (Nat.zero_mul _).symm
  | succ k ih =>
    have hb : (P * 2 ^ j).testBit (k + j) = P.testBit k := by
      rw [Nat.testBit_mul_two_pow, decide_eq_true (show j ≤ k + j by omega), Nat.add_sub_cancel]; rfl
    rw [show k + 1 + j = (k + j) + 1 by omega]
    cases c : P.testBit k with
    | true => rw [cm_T c, cm_T (hb.trans c), ih, shx, Nat.pow_add, Nat.mul_assoc]
    | false => rw [cm_F c, cm_F (hb.trans c), ih]
theorem mod_T {P k : Nat} (h : P.testBit k = true) : P % 2 ^ (k + 1) = P % 2 ^ k ^^^ 2 ^ k := by
  apply Nat.eq_of_testBit_eq
  intro i
  rw [Nat.testBit_mod_two_pow, Nat.testBit_xor, Nat.testBit_mod_two_pow, Nat.testBit_two_pow]
  rcases Nat.lt_trichotomy i k with c | c | c
  · rw [decide_eq_true (show i < k + 1 by omega), decide_eq_true c, decide_eq_false (show ¬ k = i by omega)]
    cases P.testBit i <;> rfl
  · rw [c, h, decide_eq_true (show k < k + 1 by omega), decide_eq_false (Nat.lt_irrefl k), decide_eq_true rfl]
    rfl
  · rw [decide_eq_false (show ¬ i < k + 1 by omega), decide_eq_false (show ¬ i < k by omega), decide_eq_false (show ¬ k = i by omega)]
    rfl
theorem mod_F {P k : Nat} (h : P.testBit k = false) : P % 2 ^ (k + 1) = P % 2 ^ k := by
  apply Nat.eq_of_testBit_eq
  intro i
  rw [Nat.testBit_mod_two_pow, Nat.testBit_mod_two_pow]
  rcases Nat.lt_trichotomy i k with c | c | c
  · rw [decide_eq_true (show i < k + 1 by omega), decide_eq_true c]
  · rw [c, h, Bool.and_false, Bool.and_false]
  · rw [decide_eq_false (show ¬ i < k + 1 by omega), decide_eq_false (show ¬ i < k by omega)]
theorem cm_1 (P : Nat) : ∀ k, cm P 1 k = P % 2 ^ k := by
  intro k
  induction k with
  | zero => rw [Nat.pow_zero, Nat.mod_one]; rfl
  | succ k ih =>
    cases c : P.testBit k with
    | true => rw [cm_T c, ih, Nat.one_mul, mod_T c]
    | false => rw [cm_F c, ih, mod_F c]
theorem cm_p {P j k : Nat} (h : P < 2 ^ k) : cm P (2 ^ j) k = P * 2 ^ j := by
  have := cm_shR P 1 j k
  rw [Nat.one_mul, cm_1, Nat.mod_eq_of_lt h] at this
  exact this
theorem cm_comm {P Q K L : Nat} (hP : P < 2 ^ K) (hQ : Q < 2 ^ L) : cm P Q K = cm Q P L := by
  have key : ∀ k, cm P Q k = cm Q (P % 2 ^ k) L := by
    intro k
    induction k with
    | zero => rw [Nat.pow_zero, Nat.mod_one, cm_z]; rfl
    | succ k ih =>
      cases c : P.testBit k with
      | true => rw [cm_T c, mod_T c, cm_xR, ih, cm_p hQ]
      | false => rw [cm_F c, mod_F c, ih]
  have := key K
  rw [Nat.mod_eq_of_lt hP] at this
  exact this
theorem cm_assoc {a b c L M : Nat} (hb : b < 2 ^ L) : ∀ k, k + L ≤ M → cm (cm a b k) c M = cm a (cm b c L) k := by
  intro k
  induction k with
  | zero => intro _; exact cm_0 c M
  | succ k ih =>
    intro h
    cases d : a.testBit k with
    | true =>
      have e := cm_shL b c k (M - k)
      rw [show M - k + k = M by omega, cm_ge hb (by omega)] at e
      rw [cm_T d, cm_T d, cm_xL, ih (by omega), e]
    | false => rw [cm_F d, cm_F d, ih (by omega)]
theorem cm_size {P Q l : Nat} (hQ : Q < 2 ^ (l + 1)) : ∀ k, cm P Q k < 2 ^ (k + l) := by
  intro k
  induction k with
  | zero => exact Nat.two_pow_pos _
  | succ k ih =>
    have h1 : cm P Q k < 2 ^ (k + 1 + l) := Nat.lt_of_lt_of_le ih (Nat.pow_le_pow_right (by decide) (by omega))
    cases c : P.testBit k with
    | true =>
      rw [cm_T c]
      refine Nat.xor_lt_two_pow h1 ?_
      have := Nat.mul_lt_mul_of_pos_right hQ (Nat.two_pow_pos k)
      rw [← Nat.pow_add, show l + 1 + k = k + 1 + l by omega] at this
      exact this
    | false => rw [cm_F c]; exact h1
theorem cm_deg {P Q a b K : Nat} (p1 : 2 ^ a ≤ P) (p2 : P < 2 ^ (a + 1)) (q1 : 2 ^ b ≤ Q) (q2 : Q < 2 ^ (b + 1)) (hK : a < K) : 2 ^ (a + b) ≤ cm P Q K ∧ cm P Q K < 2 ^ (a + b + 1) := by
  rw [cm_ge p2 (show a + 1 ≤ K by omega)]
  have hs := cm_size (P := P) q2 a
  have hs1 := cm_size (P := P) q2 (a + 1)
  rw [show a + 1 + b = a + b + 1 by omega] at hs1
  refine ⟨?_, hs1⟩
  rw [cm_T (top_bit p1 p2)]
  apply Nat.ge_two_pow_of_testBit
  rw [Nat.testBit_xor, Nat.testBit_lt_two_pow hs, Nat.testBit_mul_two_pow, decide_eq_true (show a ≤ a + b by omega), Nat.add_sub_cancel_left, top_bit q1 q2]
  rfl
theorem dv_cm {Q b : Nat} : ∀ k A T, ∃ u, u < 2 ^ k ∧ (dv Q b k A T).2 = T ^^^ u ∧ A = (dv Q b k A T).1 ^^^ cm u Q k := by
  intro k
  induction k with
  | zero => intro A T; exact ⟨0, by decide, (Nat.xor_zero T).symm, (Nat.xor_zero A).symm⟩
  | succ k ih =>
    intro A T
    cases c : A.testBit (k + b) with
    | true =>
      obtain ⟨u, u1, u2, u3⟩ := ih (A ^^^ Q * 2 ^ k) (T ^^^ 2 ^ k)
      have ed : dv Q b (k + 1) A T = dv Q b k (A ^^^ Q * 2 ^ k) (T ^^^ 2 ^ k) := if_pos c
      have hu : (u ^^^ 2 ^ k).testBit k = true := by rw [Nat.testBit_xor, Nat.testBit_lt_two_pow u1, Nat.testBit_two_pow, decide_eq_true rfl]; rfl
      have hc : cm (u ^^^ 2 ^ k) Q k = cm u Q k := cm_cong k (fun i hi => by rw [Nat.testBit_xor, Nat.testBit_two_pow, decide_eq_false (show ¬ k = i by omega), Bool.xor_false])
      refine ⟨u ^^^ 2 ^ k, Nat.xor_lt_two_pow (Nat.lt_of_lt_of_le u1 (Nat.pow_le_pow_right (by decide) (by omega))) (Nat.pow_lt_pow_right (by decide) (by omega)), ?_, ?_⟩
      · rw [ed, u2, Nat.xor_assoc, Nat.xor_comm (2 ^ k)]
      · rw [ed, cm_T hu, hc, ← Nat.xor_assoc, ← u3, Nat.xor_assoc, Nat.xor_self, Nat.xor_zero]
    | false =>
      obtain ⟨u, u1, u2, u3⟩ := ih A T
      have ed : dv Q b (k + 1) A T = dv Q b k A T := if_neg (by rw [c]; decide)
      refine ⟨u, Nat.lt_of_lt_of_le u1 (Nat.pow_le_pow_right (by decide) (by omega)), ?_, ?_⟩
      · rw [ed, u2]
      · rw [ed, cm_F (Nat.testBit_lt_two_pow u1)]; exact u3
/-- a product of which this is one -/
def dvs (d L : Nat) : Prop := ∃ c, c < 2 ^ 13 ∧ L = cm c d 13
theorem lg2 {d : Nat} (h : d ≠ 0) : 2 ^ d.log2 ≤ d ∧ d < 2 ^ (d.log2 + 1) := ⟨Nat.log2_self_le h, Nat.lt_log2_self⟩
theorem lg12 {d n : Nat} (h : d ≠ 0) (h2 : d < 2 ^ n) : d.log2 < n := (Nat.log2_lt h).mpr h2
theorem cm_sml {e d K n : Nat} (hd : d ≠ 0) (he : e < 2 ^ K) (h : cm e d K < 2 ^ n) : e < 2 ^ n := by
  by_cases e0 : e = 0
  · rw [e0]; exact Nat.two_pow_pos n
  · obtain ⟨a1, a2⟩ := lg2 e0
    obtain ⟨b1, b2⟩ := lg2 hd
    have hl := lg12 e0 he
    obtain ⟨c1, -⟩ := cm_deg a1 a2 b1 b2 hl
    have h1 : 2 ^ (e.log2 + d.log2) < 2 ^ n := Nat.lt_of_le_of_lt c1 h
    have h2 : e.log2 + d.log2 < n := (Nat.pow_lt_pow_iff_right (by decide)).mp h1
    exact Nat.lt_of_lt_of_le a2 (Nat.pow_le_pow_right (by decide) (by omega))
theorem dvs_self {L : Nat} (h : L < 2 ^ 13) : dvs L L := by
  refine ⟨1, by decide, ?_⟩
  rw [cm_comm (K := 13) (L := 13) (by decide) h, cm_1, Nat.mod_eq_of_lt h]
theorem dvs_0 {L : Nat} (h : dvs 0 L) : L = 0 := by
  obtain ⟨c, -, e⟩ := h
  rw [e, cm_z]
theorem dvs_trans {d U Q L : Nat} (hd : d < 2 ^ 13) (hU : U < 2 ^ 13) (hQ : Q < 2 ^ 13) (hL : L < 2 ^ 13) (h0 : L ≠ 0) (h1 : dvs d U) (h2 : L = cm U Q 13) : dvs d L := by
  obtain ⟨c, c1, c2⟩ := h1
  have d0 : d ≠ 0 := by
    intro e
    rw [e, cm_z] at c2
    rw [c2, cm_0] at h2
    exact h0 h2
  have e1 : L = cm (cm c d 13) Q 26 := by rw [← c2, cm_ge hU (show 13 ≤ 26 by decide)]; exact h2
  rw [cm_assoc hd 13 (by decide), cm_comm hd hQ, ← cm_assoc (M := 26) hQ 13 (by decide)] at e1
  have hs : cm c Q 13 < 2 ^ 26 := Nat.lt_of_lt_of_le (cm_size (l := 12) hQ 13) (Nat.pow_le_pow_right (by decide) (by decide))
  have hs2 := cm_sml d0 hs (by rw [← e1]; exact hL)
  refine ⟨cm c Q 13, hs2, ?_⟩
  rw [cm_ge hs2 (show 13 ≤ 26 by decide)] at e1
  exact e1
/-- a division of small ones -/
theorem dv_small {Q b L : Nat} (q1 : 2 ^ b ≤ Q) (q2 : Q < 2 ^ (b + 1)) (hb : b ≤ 12) (hL : L < 2 ^ 13) : (dv Q b (13 - b) L 0).1 < 2 ^ b ∧ (dv Q b (13 - b) L 0).2 < 2 ^ (13 - b) ∧ L = (dv Q b (13 - b) L 0).1 ^^^ cm (dv Q b (13 - b) L 0).2 Q 13 ∧ ((dv Q b (13 - b) L 0).1 = 0 ↔ dvs Q L) := by
  have hr := dv_rest q1 q2 (13 - b) L 0 (by rw [show 13 - b + b = 13 by omega]; exact hL)
  obtain ⟨u, u1, u2, u3⟩ := dv_cm (Q := Q) (b := b) (13 - b) L 0
  rw [Nat.zero_xor] at u2
  rw [← u2] at u1 u3
  rw [← cm_ge (K := 13) u1 (by omega)] at u3
  have u13 : (dv Q b (13 - b) L 0).2 < 2 ^ 13 := Nat.lt_of_lt_of_le u1 (Nat.pow_le_pow_right (by decide) (by omega))
  generalize (dv Q b (13 - b) L 0).1 = R at *
  generalize (dv Q b (13 - b) L 0).2 = U at *
  refine ⟨hr, u1, u3, ?_, ?_⟩
  · intro e
    rw [e, Nat.zero_xor] at u3
    exact ⟨U, u13, u3⟩
  · rintro ⟨c, c1, c2⟩
    apply Classical.byContradiction
    intro hR
    have e : R = cm (c ^^^ U) Q 13 := by
      rw [cm_xL, ← c2]
      conv => rhs; rw [u3]
      rw [Nat.xor_assoc, Nat.xor_self, Nat.xor_zero]
    have hx : c ^^^ U < 2 ^ 13 := Nat.xor_lt_two_pow c1 u13
    have h0 : c ^^^ U ≠ 0 := by
      intro q
      rw [q, cm_0] at e
      exact hR e
    obtain ⟨a1, a2⟩ := lg2 h0
    obtain ⟨d1, -⟩ := cm_deg a1 a2 q1 q2 (lg12 h0 hx)
    rw [← e] at d1
    have : 2 ^ b ≤ 2 ^ ((c ^^^ U).log2 + b) := Nat.pow_le_pow_right (by decide) (by omega)
    omega
/-- what comes of a division that leaves nothing -/
theorem dv_quot {Q b L k : Nat} (q1 : 2 ^ b ≤ Q) (q2 : Q < 2 ^ (b + 1)) (h1 : 1 ≤ b) (hb : b ≤ 12) (hL : L < 2 ^ 13) (h0 : 1 ≤ L) (hk : L < 2 ^ (k + 1)) (hR : (dv Q b (13 - b) L 0).1 = 0) : 1 ≤ (dv Q b (13 - b) L 0).2 ∧ (dv Q b (13 - b) L 0).2 < 2 ^ k ∧ (dv Q b (13 - b) L 0).2 ≤ L ∧ L = cm (dv Q b (13 - b) L 0).2 Q 13 := by
  obtain ⟨-, u1, u3, -⟩ := dv_small q1 q2 hb hL
  rw [hR, Nat.zero_xor] at u3
  have u13 : (dv Q b (13 - b) L 0).2 < 2 ^ 13 := Nat.lt_of_lt_of_le u1 (Nat.pow_le_pow_right (by decide) (by omega))
  generalize (dv Q b (13 - b) L 0).2 = U at *
  have hU : U ≠ 0 := by
    intro e
    rw [e, cm_0] at u3
    omega
  obtain ⟨a1, a2⟩ := lg2 hU
  obtain ⟨d1, -⟩ := cm_deg a1 a2 q1 q2 (lg12 hU u13)
  rw [← u3] at d1
  have h2 : 2 ^ (U.log2 + b) < 2 ^ (k + 1) := Nat.lt_of_le_of_lt d1 hk
  have h3 : U.log2 + b < k + 1 := (Nat.pow_lt_pow_iff_right (by decide)).mp h2
  have h4 : U < 2 ^ k := Nat.lt_of_lt_of_le a2 (Nat.pow_le_pow_right (by decide) (by omega))
  have h5 : 2 ^ (U.log2 + 1) ≤ 2 ^ (U.log2 + b) := Nat.pow_le_pow_right (by decide) (by omega)
  exact ⟨by omega, h4, by omega, u3⟩
theorem dvs_1 {c : Nat} (h : c < 2 ^ 13) : cm 1 c 13 = c := by
  rw [cm_comm (K := 13) (L := 13) (by decide) h, cm_1, Nat.mod_eq_of_lt h]
/-- without a small divisor it has but itself -/
theorem irr {L b t : Nat} (hL : L < 2 ^ 13) (h2 : 2 ≤ L) (ht : 2 ^ t ≤ b) (hlt : L.log2 < 2 * t) (hn : ∀ d, 2 ≤ d → d < b → ¬ dvs d L) : ∀ d, 2 ≤ d → d < L → ¬ dvs d L := by
  intro d d2 dL hd
  obtain ⟨c, c1, c2⟩ := hd
  have d13 : d < 2 ^ 13 := by omega
  have d0 : d ≠ 0 := by omega
  have hc0 : c ≠ 0 := by
    intro e
    rw [e, cm_0] at c2
    omega
  have hc1 : c ≠ 1 := by
    intro e
    rw [e, dvs_1 d13] at c2
    omega
  have hd2 : dvs c L := ⟨d, d13, by rw [cm_comm d13 c1]; exact c2⟩
  have hb1 : b ≤ d := Nat.le_of_not_lt (fun q => hn d d2 q ⟨c, c1, c2⟩)
  have hb2 : b ≤ c := Nat.le_of_not_lt (fun q => hn c (by omega) q hd2)
  obtain ⟨a1, a2⟩ := lg2 hc0
  obtain ⟨b1, b2⟩ := lg2 d0
  obtain ⟨e1, -⟩ := cm_deg a1 a2 b1 b2 (lg12 hc0 c1)
  rw [← c2] at e1
  have l1 : t ≤ c.log2 := (Nat.le_log2 hc0).mpr (by omega)
  have l2 : t ≤ d.log2 := (Nat.le_log2 d0).mpr (by omega)
  have l3 : c.log2 + d.log2 ≤ L.log2 := (Nat.le_log2 (by omega)).mpr e1
  omega

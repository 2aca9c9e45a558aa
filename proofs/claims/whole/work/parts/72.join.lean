/-! The call join. -/
def cm (P Q : Nat) : Nat → Nat
  | 0 => 0
  | k + 1 => if P / 2 ^ k % 2 = 1 then cm P Q k ^^^ (Q * 2 ^ k) else cm P Q k
theorem lN_m64 (a : Nat) : lN (a % 2 ^ 64) = lN a := lN_of_bv (by
  rw [lN_bv]
  apply BitVec.eq_of_toNat_eq
  rw [BitVec.toNat_ofNat, BitVec.toNat_ofNat, Nat.mod_mod])
theorem pL_xor (a b : Nat) : pL a ^^^ pL b = pL (a ^^^ b) := by
  unfold pL
  rw [lN_xor, Nat.xor_mod_two_pow]
theorem pH_xor (a b : Nat) : pH a ^^^ pH b = pH (a ^^^ b) := by
  unfold pH
  rw [lN_xor, Nat.xor_div_two_pow]
theorem addM {A Q k : Nat} (hk : k ≤ 95) (h : Q * 2 ^ k < 2 ^ 96) : t_X4_addMoved (pL Q) (pH Q) (nI k) (pL A) (pH A) = (pL (A ^^^ Q * 2 ^ k), pH (A ^^^ Q * 2 ^ k)) := by
  unfold t_X4_addMoved
  rw [← pL_xor, ← pH_xor]
  have hQ : Q < 2 ^ 96 := Nat.lt_of_le_of_lt (Nat.le_mul_of_pos_right Q (Nat.two_pow_pos k)) h
  by_cases c0 : k = 0
  · subst c0
    rw [if_neg (show ¬ ¬ nI 0 = 0 from fun h => h rfl), Nat.pow_zero, Nat.mul_one]
  · rw [if_pos (show ¬ nI k = 0 from ne_of_nI (b := 0) c0 (by omega) (by decide))]
    by_cases c1 : 64 ≤ k
    · obtain ⟨j, rfl⟩ : ∃ j, k = 64 + j := ⟨k - 64, by omega⟩
      rw [Nat.pow_add, ← Nat.mul_assoc, Nat.mul_right_comm] at h
      have h1 : Q * 2 ^ j < 2 ^ 32 := by omega
      have h2 : Q < 2 ^ 32 := Nat.lt_of_le_of_lt (Nat.le_mul_of_pos_right Q (Nat.two_pow_pos j)) h1
      rw [if_pos (show (64 : Int32) ≤ nI (64 + j) from nI_le (a := 64) c1 (by omega)), show nI (64 + j) - 64 = nI j by rw [show (64 : Int32) = nI 64 from rfl, nI_sub c1, show 64 + j - 64 = j by omega]]
      have e1 : Q * 2 ^ (64 + j) = Q * 2 ^ j * 2 ^ 64 := by rw [Nat.pow_add, ← Nat.mul_assoc, Nat.mul_right_comm]
      rw [e1]
      have e2 : pL (Q * 2 ^ j * 2 ^ 64) = 0 := by unfold pL; rw [Nat.mul_mod_left]; rfl
      have e3 : pH (Q * 2 ^ j * 2 ^ 64) = lN (Q * 2 ^ j) := by unfold pH; rw [Nat.mul_div_cancel _ (by decide)]
      have e4 : pL Q = lN Q := by unfold pL; rw [Nat.mod_eq_of_lt (by omega)]
      rw [e2, e3, e4, lN_shl _ (by omega), Int64.xor_zero]
    · rw [if_neg (show ¬ (64 : Int32) ≤ nI k from nI_ge (b := 64) (by omega) (by decide))]
      have e1 : pL Q <<< ((nI k).toInt64 &&& 63) = pL (Q * 2 ^ k) := by
        unfold pL
        rw [lN_shl _ (by omega), ← lN_m64, Nat.mod_mul_mod]
      have e2 : (pH Q <<< ((nI k).toInt64 &&& 63)) ||| xul (pL Q) (64 - nI k) = pH (Q * 2 ^ k) := by
        unfold pH pL
        have hl : Q % 2 ^ 64 / 2 ^ (64 - k) < 2 ^ k := by
          apply Nat.div_lt_of_lt_mul
          rw [← Nat.pow_add, show 64 - k + k = 64 by omega]
          exact Nat.mod_lt _ (by decide)
        rw [lN_shl _ (by omega), show (64 : Int32) - nI k = nI (64 - k) from nI_sub (a := 64) (by omega), lN_xul (by omega) (by omega), lN_or, Nat.or_comm, or_add hl]
        congr 1
        have e4 : Q % 2 ^ 64 / 2 ^ (64 - k) = Q % 2 ^ 64 * 2 ^ k / 2 ^ 64 := by
          have := Nat.mul_div_mul_right (Q % 2 ^ 64) (2 ^ (64 - k)) (Nat.two_pow_pos k)
          rw [← Nat.pow_add, show 64 - k + k = 64 by omega] at this
          exact this.symm
        rw [e4]
        have e5 : Q * 2 ^ k = Q % 2 ^ 64 * 2 ^ k + 2 ^ 64 * (2 ^ k * (Q / 2 ^ 64)) := by
          have := Nat.div_add_mod Q (2 ^ 64)
          conv => lhs; rw [← this]
          rw [Nat.add_mul, Nat.add_comm, Nat.mul_assoc, Nat.mul_comm (Q / 2 ^ 64)]
        rw [e5, Nat.add_mul_div_left _ _ (by decide), Nat.add_comm]
      rw [e1, e2]
theorem cm_lt {P Q : Nat} (h : ∀ k, k < 96 → P / 2 ^ k % 2 = 1 → Q * 2 ^ k < 2 ^ 96) : ∀ k, k ≤ 96 → cm P Q k < 2 ^ 96 := by
  intro k
  induction k with
  | zero => intro _; exact Nat.two_pow_pos 96
  | succ n ih =>
    intro hn
    show (if P / 2 ^ n % 2 = 1 then _ else _) < _
    by_cases c : P / 2 ^ n % 2 = 1
    · rw [if_pos c]; exact Nat.xor_lt_two_pow (ih (by omega)) (h n (by omega) c)
    · rw [if_neg c]; exact ih (by omega)
theorem prodC {P Q : Nat} (hP : P < 2 ^ 96) (h : ∀ k, k < 96 → P / 2 ^ k % 2 = 1 → Q * 2 ^ k < 2 ^ 96) : q_X4_becomeProduct (pL P) (pH P) (pL Q) (pH Q) = some (pL (cm P Q 96), pH (cm P Q 96)) := by
  obtain ⟨r, hr, g⟩ := loop_inv (F := fun f (x : Int32 × Int64 × Int64) => q_X4_becomeProduct_L8 (pL P) (pH P) (pL Q) (pH Q) f x.1 x.2.1 x.2.2)
    (fun j x => x = (nI j, pL (cm P Q j), pH (cm P Q j)))
    (fun r => r.2 = (pL (cm P Q 96), pH (cm P Q 96))) 96
    (fun f x hx => by
      subst hx
      refine ⟨_, by show q_X4_becomeProduct_L8 _ _ _ _ (f + 1) (nI 96) _ _ = _; rw [q_X4_becomeProduct_L8, if_pos (by decide)], rfl⟩)
    (fun f j x hj hx => by
      subst hx
      refine Or.inr ⟨_, ?_, rfl⟩
      show q_X4_becomeProduct_L8 _ _ _ _ (f + 1) (nI j) (pL (cm P Q j)) (pH (cm P Q j)) = q_X4_becomeProduct_L8 _ _ _ _ f (nI (j + 1)) (pL (cm P Q (j + 1))) (pH (cm P Q (j + 1)))
      rw [q_X4_becomeProduct_L8, if_neg (show ¬ (95 : Int32) < nI j by rw [ltI, nI_toInt (by omega), show (95 : Int32).toInt = 95 from rfl]; omega), hasP hP (by omega), nI_1]
      by_cases c : P / 2 ^ j % 2 = 1
      · have ec : cm P Q (j + 1) = cm P Q j ^^^ Q * 2 ^ j := if_pos c
        rw [if_pos c, if_neg (by decide), addM (by omega) (h j hj c), ec]
      · have ec : cm P Q (j + 1) = cm P Q j := if_neg c
        rw [if_neg c, if_pos rfl, ec])
    10000 0 (nI 0, pL 0, pH 0) rfl (Nat.zero_le _) (by omega)
  have hr' : q_X4_becomeProduct_L8 (pL P) (pH P) (pL Q) (pH Q) 10000 0 0 0 = some r := hr
  unfold q_X4_becomeProduct t_X4_become
  show Option.bind (q_X4_becomeProduct_L8 (pL P) (pH P) (pL Q) (pH Q) 10000 0 0 0) _ = _
  rw [hr', Option.bind_some, g]
theorem join30 (a54 : Nat → Int32) : ∃ r : Int32 × (Nat → Int32), q_X12_join_L30 10000 0 a54 = some r ∧ ∀ t, t < 192 → r.2 t = 0 := by
  obtain ⟨r, hr, g⟩ := loop_inv (F := fun f (x : Int32 × (Nat → Int32)) => q_X12_join_L30 f x.1 x.2)
    (fun j x => x.1 = nI j ∧ ∀ t, t < j → x.2 t = 0) (fun r => ∀ t, t < 192 → r.2 t = 0) 192
    (fun f x h => by
      obtain ⟨c, a⟩ := x
      obtain ⟨e1, e2⟩ := h
      have e1 : c = nI 192 := e1
      subst e1
      exact ⟨_, by show q_X12_join_L30 (f + 1) (nI 192) a = _; rw [q_X12_join_L30, if_pos (by decide)], e2⟩)
    (fun f j x hj h => by
      obtain ⟨c, a⟩ := x
      obtain ⟨e1, e2⟩ := h
      have e1 : c = nI j := e1
      subst e1
      refine Or.inr ⟨(nI (j + 1), upd a j 0), ?_, rfl, ?_⟩
      · show q_X12_join_L30 (f + 1) (nI j) a = q_X12_join_L30 f (nI (j + 1)) (upd a j 0)
        rw [q_X12_join_L30, if_neg (show ¬ (192 : Int32) ≤ nI j from nI_ge (b := 192) hj (by decide)), if_pos (xinI hj (by decide)), nI_clamp (by omega), nI_1]
      · intro t ht
        show upd a j 0 t = 0
        by_cases e : t = j
        · subst e; exact upd_eq
        · rw [upd_ne e]; exact e2 t (by omega))
    10000 0 (nI 0, a54) ⟨rfl, fun t ht => absurd ht (Nat.not_lt_zero t)⟩ (Nat.zero_le _) (by omega)
  exact ⟨r, hr, g⟩
theorem bt_tb (P k : Nat) : nI (P / 2 ^ k % 2) = nI (P.testBit k).toNat := by rw [tb_div]
theorem xor_toNat (a b : Bool) : a.toNat ^^^ b.toNat = (a ^^ b).toNat := by cases a <;> cases b <;> rfl
theorem lt_dg {Q i : Nat} (h : Q.testBit i = true) : i ≤ Q.log2 ∧ Q ≠ 0 := by
  have h1 := Nat.ge_two_pow_of_testBit h
  have h0 : Q ≠ 0 := by have := Nat.two_pow_pos i; omega
  exact ⟨(Nat.le_log2 h0).mpr h1, h0⟩
theorem dg_cases {P : Nat} (hP : P < 2 ^ 96) : (P = 0 ∧ dgI P = -1) ∨ (P ≠ 0 ∧ P.log2 ≤ 95 ∧ dgI P = nI P.log2 ∧ P < 2 ^ (P.log2 + 1) ∧ 2 ^ P.log2 ≤ P) := by
  by_cases c : P = 0
  · exact Or.inl ⟨c, if_pos c⟩
  · refine Or.inr ⟨c, ?_, if_neg c, Nat.lt_log2_self, Nat.log2_self_le c⟩
    have := (Nat.log2_lt c).mpr hP
    omega
theorem join166 {Q s j : Nat} {A : Nat} {a53 a54 : Nat → Int32} (hs : s < 8) (hj : j < 96) (hQ : Q < 2 ^ 96) (ha : ∀ k, k < 96 → a53 (96 * s + k) = nI (Q / 2 ^ k % 2)) (hA : ∀ t, t < 192 → a54 t = nI (A.testBit t).toNat) :
    ∃ r : Int32 × (Nat → Int32), q_X12_join_L166 (nI s) (dgI Q) (nI j) a53 10000 0 a54 = some r ∧ ∀ t, t < 192 → r.2 t = nI ((A ^^^ Q * 2 ^ j).testBit t).toNat := by
  rcases dg_cases hQ with ⟨rfl, e⟩ | ⟨h0, h95, e, -, -⟩
  · rw [e, q_X12_join_L166, if_pos (by decide)]
    exact ⟨_, rfl, fun t ht => by rw [Nat.zero_mul, Nat.xor_zero]; exact hA t ht⟩
  · rw [e]
    obtain ⟨r, hr, g⟩ := loop_inv (F := fun f (x : Int32 × (Nat → Int32)) => q_X12_join_L166 (nI s) (nI Q.log2) (nI j) a53 f x.1 x.2)
      (fun i x => x.1 = nI i ∧ ∀ t, t < 192 → x.2 t = nI (A.testBit t ^^ (decide (j ≤ t) && (decide (t - j < i) && Q.testBit (t - j)))).toNat)
      (fun r => ∀ t, t < 192 → r.2 t = nI ((A ^^^ Q * 2 ^ j).testBit t).toNat) (Q.log2 + 1)
      (fun f x h => by
        obtain ⟨c, a⟩ := x
        obtain ⟨e1, e2⟩ := h
        have e1 : c = nI (Q.log2 + 1) := e1
        subst e1
        refine ⟨_, by show q_X12_join_L166 _ _ _ _ (f + 1) (nI _) a = _; rw [q_X12_join_L166, if_pos (by rw [ltI, nI_toInt (by omega), nI_toInt (by omega)]; omega)], ?_⟩
        intro t ht
        show a t = _
        rw [show a t = _ from e2 t ht, Nat.testBit_xor, Nat.testBit_mul_two_pow]
        congr 3
        congr 1
        by_cases c : Q.testBit (t - j) = true
        · rw [c, decide_eq_true (by have := (lt_dg c).1; omega)]; rfl
        · rw [Bool.eq_false_iff.mpr c, Bool.and_false])
      (fun f i x hi h => by
        obtain ⟨c, a⟩ := x
        obtain ⟨e1, e2⟩ := h
        have e1 : c = nI i := e1
        subst e1
        refine Or.inr ⟨(nI (i + 1), upd a (j + i) (a (j + i) ^^^ a53 (96 * s + i))), ?_, rfl, ?_⟩
        · show q_X12_join_L166 _ _ _ _ (f + 1) (nI i) a = q_X12_join_L166 _ _ _ _ f (nI (i + 1)) _
          rw [q_X12_join_L166, if_neg (show ¬ nI Q.log2 < nI i by rw [ltI, nI_toInt (by omega), nI_toInt (by omega)]; omega), k96, nI_mul, nI_add, nI_add, if_pos (xinI (by omega) (by omega)), if_pos (xinI (by omega) (by omega)), if_pos (xinI (by omega) (by omega)), nI_clamp (by omega), nI_clamp (by omega), nI_1]
        · intro t ht
          show upd a _ _ t = _
          by_cases e : t = j + i
          · subst e
            rw [upd_eq, show a (j + i) = _ from e2 (j + i) ht, ha i (by omega), bt_tb, nI_xor, xor_toNat, show j + i - j = i by omega, decide_eq_true (show j ≤ j + i by omega), decide_eq_false (show ¬ i < i by omega), decide_eq_true (show i < i + 1 by omega)]
            cases A.testBit (j + i) <;> cases Q.testBit i <;> rfl
          · rw [upd_ne e, show a t = _ from e2 t ht]
            by_cases c : j ≤ t
            · rw [show decide (t - j < i + 1) = decide (t - j < i) from decide_eq_decide.mpr (by omega)]
            · rw [decide_eq_false c, Bool.false_and, Bool.false_and])
      10000 0 (nI 0, a54) ⟨rfl, fun t ht => by show a54 t = _; rw [hA t ht, decide_eq_false (show ¬ t - j < 0 by omega), Bool.false_and, Bool.and_false, Bool.xor_false]⟩ (Nat.zero_le _) (by omega)
    exact ⟨r, hr, g⟩
theorem join100p {P Q s u : Nat} {a53 a54 : Nat → Int32} (hs : s < 8) (hu : u < 8) (hQ : Q < 2 ^ 96) (hp : ∀ k, k < 96 → a53 (96 * s + k) = nI (P / 2 ^ k % 2)) (ha : ∀ k, k < 96 → a53 (96 * u + k) = nI (Q / 2 ^ k % 2)) (h0 : ∀ t, t < 192 → a54 t = 0) :
    ∃ r : Int32 × (Nat → Int32), q_X12_join_L100 (nI s) (nI u) 1 (dgI Q) a53 10000 0 a54 = some r ∧ ∀ t, t < 192 → r.2 t = nI (cm P Q 96 / 2 ^ t % 2) := by
  obtain ⟨r, hr, g⟩ := loop_inv (F := fun f (x : Int32 × (Nat → Int32)) => q_X12_join_L100 (nI s) (nI u) 1 (dgI Q) a53 f x.1 x.2)
    (fun j x => x.1 = nI j ∧ ∀ t, t < 192 → x.2 t = nI ((cm P Q j).testBit t).toNat)
    (fun r => ∀ t, t < 192 → r.2 t = nI (cm P Q 96 / 2 ^ t % 2)) 96
    (fun f x h => by
      obtain ⟨c, a⟩ := x
      obtain ⟨e1, e2⟩ := h
      have e1 : c = nI 96 := e1
      subst e1
      refine ⟨_, by show q_X12_join_L100 _ _ _ _ _ (f + 1) (nI 96) a = _; rw [q_X12_join_L100, if_pos (by decide)], ?_⟩
      intro t ht
      rw [bt_tb]
      exact e2 t ht)
    (fun f j x hj h => by
      obtain ⟨c, a⟩ := x
      obtain ⟨e1, e2⟩ := h
      have e1 : c = nI j := e1
      subst e1
      right
      by_cases c : P / 2 ^ j % 2 = 1
      · obtain ⟨v, v1, v2⟩ := join166 (A := cm P Q j) (a54 := a) hu hj hQ ha e2
        refine ⟨(nI (j + 1), v.2), ?_, rfl, ?_⟩
        · show q_X12_join_L100 _ _ _ _ _ (f + 1) (nI j) a = q_X12_join_L100 _ _ _ _ _ f (nI (j + 1)) v.2
          rw [q_X12_join_L100, if_neg (show ¬ (96 : Int32) ≤ nI j from nI_ge (b := 96) hj (by decide)), if_pos (show ¬ (1 : Int32) = 0 by decide), k96, nI_mul, nI_add, if_pos (xinI (by omega) (by omega)), nI_clamp (by omega), hp j hj, c, if_neg (show ¬ ¬ nI 1 = 1 from fun h => h rfl), v1, Option.bind_some, nI_1]
        · rw [show cm P Q (j + 1) = cm P Q j ^^^ Q * 2 ^ j from if_pos c]
          exact v2
      · refine ⟨(nI (j + 1), a), ?_, rfl, ?_⟩
        · show q_X12_join_L100 _ _ _ _ _ (f + 1) (nI j) a = q_X12_join_L100 _ _ _ _ _ f (nI (j + 1)) a
          rw [q_X12_join_L100, if_neg (show ¬ (96 : Int32) ≤ nI j from nI_ge (b := 96) hj (by decide)), if_pos (show ¬ (1 : Int32) = 0 by decide), k96, nI_mul, nI_add, if_pos (xinI (by omega) (by omega)), nI_clamp (by omega), hp j hj, show P / 2 ^ j % 2 = 0 by omega, if_pos (show ¬ nI 0 = 1 by decide), nI_1]
        · rw [show cm P Q (j + 1) = cm P Q j from if_neg c]
          exact e2)
    10000 0 (nI 0, a54) ⟨rfl, fun t ht => by show a54 t = _; rw [h0 t ht, show cm P Q 0 = 0 from rfl, Nat.zero_testBit]; rfl⟩ (Nat.zero_le _) (by omega)
  exact ⟨r, hr, g⟩
theorem join100s {P Q s u : Nat} {d : Int32} {a53 a54 : Nat → Int32} (hs : s < 8) (hu : u < 8) (hp : ∀ k, k < 96 → a53 (96 * s + k) = nI (P / 2 ^ k % 2)) (ha : ∀ k, k < 96 → a53 (96 * u + k) = nI (Q / 2 ^ k % 2)) :
    ∃ r : Int32 × (Nat → Int32), q_X12_join_L100 (nI s) (nI u) 0 d a53 10000 0 a54 = some r ∧ ∀ t, t < 96 → r.2 t = nI ((P ^^^ Q) / 2 ^ t % 2) := by
  obtain ⟨r, r1, r2, -⟩ := layT (F := q_X12_join_L100 (nI s) (nI u) 0 d a53) (s := 0) (a53 := a54) (v := fun k => nI ((P ^^^ Q) / 2 ^ k % 2))
    (fun f a => by rw [q_X12_join_L100, if_pos (show (96 : Int32) ≤ nI 96 by decide)])
    (fun f k v hk => by
      rw [q_X12_join_L100, if_neg (show ¬ (96 : Int32) ≤ nI k from nI_ge (b := 96) hk (by decide)), ite00, k96, nI_mul, nI_mul, nI_add, nI_add, if_pos (xinI (by omega) (by omega)), if_pos (xinI (by omega) (by omega)), if_pos (xinI (by omega) (by omega)), nI_clamp (by omega), nI_clamp (by omega), nI_clamp (by omega), hp k hk, ha k hk, nI_xor, nI_1, Nat.mul_zero, Nat.zero_add, tb_div, tb_div, tb_div, xor_toNat, Nat.testBit_xor])
  refine ⟨r, r1, fun t ht => ?_⟩
  have := r2 t ht
  rw [Nat.mul_zero, Nat.zero_add] at this
  exact this
theorem join213 {P s : Nat} {a53 a54 : Nat → Int32} (hs : s < 8) (h : ∀ t, t < 96 → a54 t = nI (P / 2 ^ t % 2)) :
    ∃ r : Int32 × (Nat → Int32), q_X12_join_L213 (nI s) a54 10000 0 a53 = some r ∧ (∀ k, k < 96 → r.2 (96 * s + k) = nI (P / 2 ^ k % 2)) ∧ ∀ t, (t < 96 * s ∨ 96 * s + 96 ≤ t) → r.2 t = a53 t := by
  exact layT (F := q_X12_join_L213 (nI s) a54) (s := s) (a53 := a53) (v := fun k => nI (P / 2 ^ k % 2))
    (fun f a => by rw [q_X12_join_L213, if_pos (show (96 : Int32) ≤ nI 96 by decide)])
    (fun f k v hk => by
      rw [q_X12_join_L213, if_neg (show ¬ (96 : Int32) ≤ nI k from nI_ge (b := 96) hk (by decide)), k96, nI_mul, nI_add, if_pos (xinI (by omega) (by omega)), if_pos (xinI (by omega) (by omega)), nI_clamp (by omega), nI_clamp (by omega), h k hk, nI_1])
theorem takeT {s u : Nat} {a10 a11 : Nat → Int64} {w x y z : Int64} (hs : s < 8) (hu : u < 8) : q_X11_takeBoth (nI s) (nI u) a10 a11 w x y z = some (.inr (), (a10 s, a11 s, a10 u, a11 u)) := by
  unfold q_X11_takeBoth
  rw [rsT hs, rsT hu]
  simp only [xbnd, takeS hs, takeS hu, Option.bind_some]
theorem takeF {p q : Int32} {a10 a11 : Nat → Int64} {w x y z : Int64} (h : (p.toInt < 0 ∨ ((8 : Nat) : Int) ≤ p.toInt) ∨ ∃ s, s < 8 ∧ p = nI s ∧ (q.toInt < 0 ∨ ((8 : Nat) : Int) ≤ q.toInt)) : q_X11_takeBoth p q a10 a11 w x y z = some (.inl 2, (w, x, y, z)) := by
  unfold q_X11_takeBoth
  rcases h with h | ⟨s, hs, rfl, h⟩
  · rw [rsF h]; rfl
  · rw [rsT hs, rsF h]; rfl
/-- three shelves, or one that isn't -/
theorem three (p q r : Int32) : (∃ s t u, s < 8 ∧ t < 8 ∧ u < 8 ∧ p = nI s ∧ q = nI t ∧ r = nI u) ∨ (p.toInt < 0 ∨ ((8 : Nat) : Int) ≤ p.toInt) ∨ (∃ s, s < 8 ∧ p = nI s ∧ ((q.toInt < 0 ∨ ((8 : Nat) : Int) ≤ q.toInt) ∨ ∃ t, t < 8 ∧ q = nI t ∧ (r.toInt < 0 ∨ ((8 : Nat) : Int) ≤ r.toInt))) := by
  rcases cls p (n := 8) (by omega) with ⟨s, hs, rfl⟩ | h
  · rcases cls q (n := 8) (by omega) with ⟨t, ht, rfl⟩ | h
    · rcases cls r (n := 8) (by omega) with ⟨u, hu, rfl⟩ | h
      · exact Or.inl ⟨s, t, u, hs, ht, hu, rfl, rfl, rfl⟩
      · exact Or.inr (Or.inr ⟨s, hs, rfl, Or.inr ⟨t, ht, rfl, h⟩⟩)
    · exact Or.inr (Or.inr ⟨s, hs, rfl, Or.inl h⟩)
  · exact Or.inr (Or.inl h)
theorem dgM1 {P : Nat} (h : P ≠ 0) (hP : P < 2 ^ 96) : ¬ dgI P < 0 := by
  rcases dg_cases hP with ⟨rfl, e⟩ | ⟨h0, h95, e, -, -⟩
  · exact absurd rfl h
  · rw [e]; exact nI_pos (by omega)
theorem fitsQ {P Q : Nat} (hP : P < 2 ^ 96) (hQ : Q < 2 ^ 96) (h : P = 0 ∨ Q = 0 ∨ P.log2 + Q.log2 ≤ 95) : ∀ k, k < 96 → P / 2 ^ k % 2 = 1 → Q * 2 ^ k < 2 ^ 96 := by
  intro k hk c
  have c1 : P.testBit k = true := by rw [tb_div] at c; cases e : P.testBit k <;> simp_all
  obtain ⟨g1, g2⟩ := lt_dg c1
  rcases h with h | rfl | h
  · exact absurd h g2
  · rw [Nat.zero_mul]; exact Nat.two_pow_pos 96
  · have h1 : Q < 2 ^ (Q.log2 + 1) := Nat.lt_log2_self
    have h2 : Q * 2 ^ k < 2 ^ (Q.log2 + 1) * 2 ^ k := Nat.mul_lt_mul_of_pos_right h1 (Nat.two_pow_pos k)
    rw [← Nat.pow_add] at h2
    exact Nat.lt_of_lt_of_le h2 (Nat.pow_le_pow_right (by decide) (by omega))
theorem dg_add {P Q : Nat} (h1 : P ≠ 0) (h2 : Q ≠ 0) (hP : P < 2 ^ 96) (hQ : Q < 2 ^ 96) : (dgI P + dgI Q ≤ 95 ↔ P.log2 + Q.log2 ≤ 95) ∧ (dgI P + dgI Q < 96 ↔ P.log2 + Q.log2 ≤ 95) := by
  rcases dg_cases hP with ⟨e, -⟩ | ⟨-, a1, a2, -, -⟩
  · exact absurd e h1
  rcases dg_cases hQ with ⟨e, -⟩ | ⟨-, b1, b2, -, -⟩
  · exact absurd e h2
  rw [a2, b2, nI_add]
  refine ⟨?_, ?_⟩
  · rw [leI, nI_toInt (by omega), show (95 : Int32).toInt = 95 from rfl]; omega
  · rw [ltI, nI_toInt (by omega), show (96 : Int32).toInt = 96 from rfl]; omega
theorem dgN {P : Nat} (hP : P < 2 ^ 96) : (dgI P < 0 ↔ P = 0) := by
  constructor
  · intro h
    by_cases c : P = 0
    · exact c
    · exact absurd h (dgM1 c hP)
  · rintro rfl
    decide
theorem joinCs {s t u P Q : Nat} {a10 a11 : Nat → Int64} {w x y z v v' : Int64} (hs : s < 8) (ht : t < 8) (hu : u < 8) (hP : P < 2 ^ 96) (hQ : Q < 2 ^ 96) (p1 : a10 t = pL P) (p2 : a11 t = pH P) (q1 : a10 u = pL Q) (q2 : a11 u = pH Q) :
    q_X11_join (nI s) (nI t) (nI u) 0 a10 a11 w x y z v v' = some (.inr (dgI (P ^^^ Q)), (vp_updL a10 s (pL (P ^^^ Q)), vp_updL a11 s (pH (P ^^^ Q)), pL P, pH P, pL Q, pH Q, pL (P ^^^ Q), pH (P ^^^ Q))) := by
  have e : t_X4_becomeSum (pL P) (pH P) (pL Q) (pH Q) = (pL (P ^^^ Q), pH (P ^^^ Q)) := by
    unfold t_X4_becomeSum t_X4_become
    rw [pL_xor, pH_xor]
  unfold q_X11_join
  rw [rsT hs]
  simp only [xbnd, takeT ht hu, if_true, p1, p2, q1, q2, e, putS hs (Nat.xor_lt_two_pow hP hQ), Option.bind_some]
theorem joinCp {s t u P Q : Nat} {a10 a11 : Nat → Int64} {w x y z v v' : Int64} (hs : s < 8) (ht : t < 8) (hu : u < 8) (hP : P < 2 ^ 96) (hQ : Q < 2 ^ 96) (p1 : a10 t = pL P) (p2 : a11 t = pH P) (q1 : a10 u = pL Q) (q2 : a11 u = pH Q) (h : P = 0 ∨ Q = 0 ∨ P.log2 + Q.log2 ≤ 95) :
    q_X11_join (nI s) (nI t) (nI u) 1 a10 a11 w x y z v v' = some (.inr (dgI (cm P Q 96)), (vp_updL a10 s (pL (cm P Q 96)), vp_updL a11 s (pH (cm P Q 96)), pL P, pH P, pL Q, pH Q, pL (cm P Q 96), pH (cm P Q 96))) := by
  have hf := fitsQ hP hQ h
  have hc := cm_lt hf 96 (Nat.le_refl _)
  unfold q_X11_join
  rw [rsT hs]
  simp only [xbnd, takeT ht hu, ite1e, p1, p2, q1, q2, degC hP, degC hQ, Option.bind_some, dgN hP, dgN hQ, prodC hP hf, putS hs hc]
  by_cases c1 : P = 0
  · rw [if_pos c1]
  · by_cases c2 : Q = 0
    · rw [if_neg c1, if_pos c2]
    · rw [if_neg c1, if_neg c2, if_pos ((dg_add c1 c2 hP hQ).1.mpr (by omega))]
theorem joinCf {s t u P Q : Nat} {a10 a11 : Nat → Int64} {w x y z v v' : Int64} (hs : s < 8) (ht : t < 8) (hu : u < 8) (hP : P < 2 ^ 96) (hQ : Q < 2 ^ 96) (p1 : a10 t = pL P) (p2 : a11 t = pH P) (q1 : a10 u = pL Q) (q2 : a11 u = pH Q) (h : ¬ (P = 0 ∨ Q = 0 ∨ P.log2 + Q.log2 ≤ 95)) :
    q_X11_join (nI s) (nI t) (nI u) 1 a10 a11 w x y z v v' = some (.inl 1, (a10, a11, pL P, pH P, pL Q, pH Q, v, v')) := by
  have c1 : P ≠ 0 := by omega
  have c2 : Q ≠ 0 := by omega
  unfold q_X11_join
  rw [rsT hs]
  simp only [xbnd, takeT ht hu, ite1e, p1, p2, q1, q2, degC hP, degC hQ, Option.bind_some, dgN hP, dgN hQ]
  rw [if_neg c1, if_neg c2, if_neg (fun e => h (Or.inr (Or.inr ((dg_add c1 c2 hP hQ).1.mp e))))]
theorem joinMs {s t u P Q : Nat} {a54 a53 : Nat → Int32} (hs : s < 8) (ht : t < 8) (hu : u < 8) (hP : P < 2 ^ 96) (hQ : Q < 2 ^ 96) (p3 : ∀ k, k < 96 → a53 (96 * t + k) = nI (P / 2 ^ k % 2)) (q3 : ∀ k, k < 96 → a53 (96 * u + k) = nI (Q / 2 ^ k % 2)) :
    ∃ g h, q_X12_join (nI s) (nI t) (nI u) 0 a54 a53 = some ((t_X12_tells (dgI (P ^^^ Q))).1, (t_X12_tells (dgI (P ^^^ Q))).2, g, h) ∧ (∀ k, k < 96 → h (96 * s + k) = nI ((P ^^^ Q) / 2 ^ k % 2)) ∧ ∀ t, (t < 96 * s ∨ 96 * s + 96 ≤ t) → h t = a53 t := by
  obtain ⟨r, r1, -⟩ := join30 a54
  obtain ⟨r', r1', r2'⟩ := join100s (P := P) (Q := Q) (d := dgI Q) (a53 := a53) (a54 := r.2) ht hu p3 q3
  obtain ⟨v, v1, v2, v3⟩ := join213 (P := P ^^^ Q) (a53 := a53) (a54 := r'.2) hs r2'
  refine ⟨r'.2, v.2, ?_, v2, v3⟩
  unfold q_X12_join
  simp only [msT hs, msT ht, msT hu, ite1e, ite10, r1, Option.bind_some, degM ht hP p3, degM hu hQ q3, if_true, r1', v1, degM hs (Nat.xor_lt_two_pow hP hQ) v2]
theorem joinMp {s t u P Q : Nat} {a54 a53 : Nat → Int32} (hs : s < 8) (ht : t < 8) (hu : u < 8) (hP : P < 2 ^ 96) (hQ : Q < 2 ^ 96) (p3 : ∀ k, k < 96 → a53 (96 * t + k) = nI (P / 2 ^ k % 2)) (q3 : ∀ k, k < 96 → a53 (96 * u + k) = nI (Q / 2 ^ k % 2)) (hf : P = 0 ∨ Q = 0 ∨ P.log2 + Q.log2 ≤ 95) :
    ∃ g h, q_X12_join (nI s) (nI t) (nI u) 1 a54 a53 = some ((t_X12_tells (dgI (cm P Q 96))).1, (t_X12_tells (dgI (cm P Q 96))).2, g, h) ∧ (∀ k, k < 96 → h (96 * s + k) = nI (cm P Q 96 / 2 ^ k % 2)) ∧ ∀ t, (t < 96 * s ∨ 96 * s + 96 ≤ t) → h t = a53 t := by
  obtain ⟨r, r1, r2⟩ := join30 a54
  obtain ⟨r', r1', r2'⟩ := join100p (P := P) (Q := Q) (a53 := a53) (a54 := r.2) ht hu hQ p3 q3 r2
  obtain ⟨v, v1, v2, v3⟩ := join213 (P := cm P Q 96) (a53 := a53) (a54 := r'.2) hs (fun t ht => r2' t (by omega))
  refine ⟨r'.2, v.2, ?_, v2, v3⟩
  unfold q_X12_join
  simp only [msT hs, msT ht, msT hu, ite1e, ite10, r1, Option.bind_some, degM ht hP p3, degM hu hQ q3, r1', v1, degM hs (cm_lt (fitsQ hP hQ hf) 96 (Nat.le_refl _)) v2, dgN hP, dgN hQ]
  by_cases c1 : P = 0
  · rw [if_pos c1]
  · by_cases c2 : Q = 0
    · rw [if_neg c1, if_pos c2]
    · rw [if_neg c1, if_neg c2, if_pos ((dg_add c1 c2 hP hQ).2.mpr (by omega))]
theorem joinMf {s t u P Q : Nat} {a54 a53 : Nat → Int32} (hs : s < 8) (ht : t < 8) (hu : u < 8) (hP : P < 2 ^ 96) (hQ : Q < 2 ^ 96) (p3 : ∀ k, k < 96 → a53 (96 * t + k) = nI (P / 2 ^ k % 2)) (q3 : ∀ k, k < 96 → a53 (96 * u + k) = nI (Q / 2 ^ k % 2)) (h : ¬ (P = 0 ∨ Q = 0 ∨ P.log2 + Q.log2 ≤ 95)) :
    ∃ g, q_X12_join (nI s) (nI t) (nI u) 1 a54 a53 = some ((t_X12_fails 2).1, (t_X12_fails 2).2, g, a53) := by
  obtain ⟨r, r1, r2⟩ := join30 a54
  have c1 : P ≠ 0 := by omega
  have c2 : Q ≠ 0 := by omega
  refine ⟨r.2, ?_⟩
  unfold q_X12_join
  simp only [msT hs, msT ht, msT hu, ite1e, ite10, r1, Option.bind_some, degM ht hP p3, degM hu hQ q3, dgN hP, dgN hQ]
  rw [if_neg c1, if_neg c2, if_neg (fun e => h (Or.inr (Or.inr ((dg_add c1 c2 hP hQ).2.mp e))))]
theorem M_17 : MS_17 := by
  intro S l4 a10 a11 c12_0 c12_1 c13_0 c13_1 c14_0 c14_1 a66 a54 a53 c1_1 a2 c48_17 a49 c3_1 c3_2 c4_0 a5 a6 c48_20 a52 c8_0 c8_1 c8_2 c8_3 c8_4 c8_5 c48_24 c48_25 c48_26 c48_27 c48_28 c7_0 c7_1 c7_2 c7_3 c7_4 c7_5 c17_1 a18 c48_21 a57 c23_4 c24_0 a25 a26 c48_22 a58 a22 x1 x2 x3 x4 x5 hB hP hK h7 hS hD hW hC
  unfold q_case17
  generalize S.2 (l4 + (1 : Int32)).toNatClampNeg = p1
  generalize S.2 (l4 + (2 : Int32)).toNatClampNeg = p2
  generalize S.2 (l4 + (3 : Int32)).toNatClampNeg = p3
  generalize S.2 (l4 + (4 : Int32)).toNatClampNeg = p4
  rcases three p1 p2 p3 with ⟨s, t, u, hs, ht, hu, rfl, rfl, rfl⟩ | h
  · obtain ⟨P, hP, b1, b2, b3⟩ := hS t ht
    obtain ⟨Q, hQ, q1, q2, q3⟩ := hS u hu
    by_cases c : p4 = 0
    · obtain ⟨g, h, m1, m2, m3⟩ := joinMs (a54 := a54) hs ht hu hP hQ b3 q3
      simp only [x1, x2, x3, x4, if_true, if_pos c, q_L_join, joinCs hs ht hu hP hQ b1 b2 q1 q2, xbnd, Option.bind_some, m1, t_X12_tells, t_X12_thrown, ite00, c0, updL_eq, lgs]
      exact ⟨_, rfl, putI hs (Nat.xor_lt_two_pow hP hQ) hS m2 m3⟩
    · by_cases f : P = 0 ∨ Q = 0 ∨ P.log2 + Q.log2 ≤ 95
      · obtain ⟨g, h, m1, m2, m3⟩ := joinMp (a54 := a54) hs ht hu hP hQ b3 q3 f
        simp only [x1, x2, x3, x4, if_true, if_neg c, q_L_join, joinCp hs ht hu hP hQ b1 b2 q1 q2 f, xbnd, Option.bind_some, m1, t_X12_tells, t_X12_thrown, ite00, c0, updL_eq, lgs]
        exact ⟨_, rfl, putI hs (cm_lt (fitsQ hP hQ f) 96 (Nat.le_refl _)) hS m2 m3⟩
      · obtain ⟨g, m1⟩ := joinMf (a54 := a54) hs ht hu hP hQ b3 q3 f
        simp only [x1, x2, x3, x4, if_true, if_neg c, q_L_join, joinCf hs ht hu hP hQ b1 b2 q1 q2 f, xbnd, Option.bind_some, m1, t_X12_fails, t_X12_thrown]
        exact ⟨_, rfl, hS⟩
  · have e1 : q_X11_join p1 p2 p3 (if p4 = 0 then 0 else 1) a10 a11 c12_0 c12_1 c13_0 c13_1 c14_0 c14_1 = some (.inl 2, (a10, a11, c12_0, c12_1, c13_0, c13_1, c14_0, c14_1)) := by
      unfold q_X11_join
      rcases h with h | ⟨s, hs, rfl, h⟩
      · rw [rsF h]; rfl
      · rw [rsT hs]
        simp only [xbnd, takeF h]
    have e2 : q_X12_join p1 p2 p3 (if p4 = 0 then 0 else 1) a54 a53 = some ((t_X12_fails 1).1, (t_X12_fails 1).2, a54, a53) := by
      unfold q_X12_join
      rcases h with h | ⟨s, hs, rfl, h | ⟨t, ht, rfl, h⟩⟩
      · rw [msF h, ite0e]
      · rw [msT hs, ite1e, msF h, ite0e]
      · rw [msT hs, ite1e, msT ht, ite1e, msF h, ite00]
    simp only [x1, x2, x3, x4, if_true, q_L_join, e1, xbnd, Option.bind_some, e2, t_X12_fails, t_X12_thrown]
    exact ⟨_, rfl, hS⟩

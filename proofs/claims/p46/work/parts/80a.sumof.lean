/-! The law's own sums: a division of rows of bits. -/
def rb (w p : Nat) (b : Nat → Bool) (s : Nat) : Nat → Nat
  | 0 => s
  | k + 1 => fb w p (rb w p b s k) (b k)
theorem rb_lt {w p s : Nat} {b : Nat → Bool} (hp : p < 2 ^ w) (hs : s < 2 ^ w) (k : Nat) : rb w p b s k < 2 ^ w := by
  cases k with
  | zero => exact hs
  | succ k => exact fb_lt hp
theorem rb_congr {w p s : Nat} {b c : Nat → Bool} : ∀ k, (∀ j, j < k → b j = c j) → rb w p b s k = rb w p c s k := by
  intro k
  induction k with
  | zero => intro _; rfl
  | succ k ih =>
    intro h
    show fb w p (rb w p b s k) (b k) = fb w p (rb w p c s k) (c k)
    rw [ih (fun j hj => h j (by omega)), h k (by omega)]
/-- the bit k of a span of bytes -/
def mb (mi : Nat) (B : Nat → Nat) (a k : Nat) : Bool := (B (a + k / 8)).testBit (if mi = 0 then 7 - k % 8 else k % 8)
theorem rb_reg {w p s mi a : Nat} {B : Nat → Nat} : ∀ n, rb w p (mb mi B a) s (8 * n) = reg w p mi B a s n := by
  intro n
  induction n with
  | zero => rfl
  | succ n ih =>
    show _ = feed w p mi (reg w p mi B a s n) (B (a + n))
    rw [← ih]
    unfold feed
    have key : ∀ j, j ≤ 8 → f8 w p (if mi = 0 then B (a + n) else mir (B (a + n)) 8) (8 - j) (rb w p (mb mi B a) s (8 * n + j)) = f8 w p (if mi = 0 then B (a + n) else mir (B (a + n)) 8) 8 (rb w p (mb mi B a) s (8 * n)) := by
      intro j
      induction j with
      | zero => intro _; rfl
      | succ j ihj =>
        intro hj
        rw [← ihj (by omega), show 8 - j = (8 - (j + 1)) + 1 by omega]
        show _ = f8 w p _ (8 - (j + 1)) (fb w p _ (Nat.testBit _ (8 - (j + 1))))
        congr 1
        show fb w p _ (mb mi B a (8 * n + j)) = _
        congr 1
        unfold mb
        rw [show (8 * n + j) / 8 = n by omega, show (8 * n + j) % 8 = j by omega]
        by_cases c : mi = 0
        · rw [if_pos c, if_pos c, show 7 - j = 8 - (j + 1) by omega]
        · rw [if_neg c, if_neg c, mir_bit, decide_eq_true (show 8 - (j + 1) < 8 by omega), Bool.true_and, show 8 - 1 - (8 - (j + 1)) = j by omega]
    rw [← key 8 (Nat.le_refl _)]
    rfl
theorem fb_bit {w p r j : Nat} {c : Bool} (h1 : 1 ≤ w) : (fb w p r c).testBit j = ((decide (j < w) && (decide (1 ≤ j) && r.testBit (j - 1))) ^^ ((r.testBit (w - 1) ^^ c) && p.testBit j)) := by
  unfold fb
  rw [kT_bit h1]
  have e2 : (r ^^^ c.toNat * 2 ^ (w - 1)).testBit (w - 1) = (r.testBit (w - 1) ^^ c) := by
    rw [Nat.testBit_xor, Nat.testBit_mul_two_pow, decide_eq_true (Nat.le_refl _), Nat.sub_self]
    cases c <;> cases r.testBit (w - 1) <;> rfl
  rw [e2]
  congr 1
  by_cases hj : j < w
  · by_cases h0 : 1 ≤ j
    · rw [Nat.testBit_xor, Nat.testBit_mul_two_pow, decide_eq_false (show ¬ w - 1 ≤ j - 1 by omega), Bool.false_and, Bool.xor_false]
    · rw [decide_eq_false h0, Bool.false_and, Bool.false_and]
  · rw [decide_eq_false hj, Bool.false_and, Bool.false_and]
/-- the row of bits behind k steps of the division, from k on -/
def av (w p : Nat) (b : Nat → Bool) (s k j : Nat) : Bool := (decide (j < k + w) && (rb w p b s k).testBit (w - 1 - (j - k))) ^^ b j
theorem av_top {w p s k : Nat} {b : Nat → Bool} (h1 : 1 ≤ w) : av w p b s k k = ((rb w p b s k).testBit (w - 1) ^^ b k) := by
  unfold av
  rw [decide_eq_true (show k < k + w by omega), Bool.true_and, Nat.sub_self, Nat.sub_zero]
theorem av_step {w p s k i : Nat} {b : Nat → Bool} (h1 : 1 ≤ w) (hi : 1 ≤ i) : av w p b s (k + 1) (k + i) = (av w p b s k (k + i) ^^ (av w p b s k k && (decide (i ≤ w) && p.testBit (w - i)))) := by
  rw [av_top h1]
  unfold av
  show ((decide (k + i < k + 1 + w) && (fb w p (rb w p b s k) (b k)).testBit (w - 1 - (k + i - (k + 1)))) ^^ b (k + i)) = _
  generalize rb w p b s k = r
  by_cases hw : i ≤ w
  · rw [decide_eq_true (show k + i < k + 1 + w by omega), Bool.true_and, show w - 1 - (k + i - (k + 1)) = w - i by omega, fb_bit h1, decide_eq_true (show w - i < w by omega), Bool.true_and, decide_eq_true hw, Bool.true_and]
    have e : (decide (1 ≤ w - i) && r.testBit (w - i - 1)) = (decide (k + i < k + w) && r.testBit (w - 1 - (k + i - k))) := by
      by_cases h : i < w
      · rw [decide_eq_true (show 1 ≤ w - i by omega), decide_eq_true (show k + i < k + w by omega), show w - 1 - (k + i - k) = w - i - 1 by omega]
      · rw [decide_eq_false (show ¬ 1 ≤ w - i by omega), decide_eq_false (show ¬ k + i < k + w by omega), Bool.false_and, Bool.false_and]
    rw [e]
    generalize (decide (k + i < k + w) && r.testBit (w - 1 - (k + i - k))) = u
    generalize ((r.testBit (w - 1) ^^ b k) && p.testBit (w - i)) = v
    cases u <;> cases v <;> cases b (k + i) <;> rfl
  · rw [decide_eq_false (show ¬ k + i < k + 1 + w by omega), decide_eq_false (show ¬ k + i < k + w by omega), decide_eq_false hw]
    simp
theorem bI_xor (a c : Bool) : vp_nar .boolean (bI a ^^^ bI c) = bI (a ^^ c) := by cases a <;> cases c <;> decide
theorem bI_ne {a : Bool} (h : a = true) : ¬ bI a = 0 := by subst h; decide
theorem bI_z {a : Bool} (h : a = false) : bI a = 0 := by subst h; rfl
theorem pbit {p k : Nat} (hp : p < 18446744073709551616) (hk : k < 64) : (if ¬ (lg_cmp ((xul (lN p) (nI k)) &&& 1) 1) = 0 then (0 : Int32) else 1) = bI (p.testBit k) := by
  rw [lN_xul hp hk, show (1 : Int64) = lN 1 from rfl, lN_and, and1, tb_div]
  cases p.testBit k
  · exact if_pos (by decide)
  · exact if_neg (by decide)
theorem pbit0 {p : Nat} (hp : p < 18446744073709551616) : (if ¬ (lg_cmp ((lN p) &&& 1) 1) = 0 then (0 : Int32) else 1) = bI (p.testBit 0) := by
  have := pbit hp (show 0 < 64 by decide)
  rw [lN_xul hp (by decide), Nat.pow_zero, Nat.div_one] at this
  exact this
theorem inn220 {w p k N : Nat} {x : Nat → Bool} {an : Nat → Int32} (h1 : 1 ≤ w) (h : w ≤ 32) (hp : p < 2 ^ w) (hk : k + w < N) (hN : N ≤ 1000) (ht : x k = true) (ha : ∀ j, k ≤ j → j < N → an j = bI (x j)) :
    ∃ r, q_L_sumRest_L220 (nI w) (lN p) (nI k) N 10000 0 an = some r ∧ ∀ i, 1 ≤ i → k + i < N → r.2 (k + i) = bI (x (k + i) ^^ (decide (i ≤ w) && p.testBit (w - i))) := by
  have hw := pow_le h
  have hp64 : p < 18446744073709551616 := by omega
  obtain ⟨r, hr, g⟩ := loop_inv (F := fun f (y : Int32 × (Nat → Int32)) => q_L_sumRest_L220 (nI w) (lN p) (nI k) N f y.1 y.2)
    (fun j y => y.1 = nI j ∧ (y.2 k = if j ≤ w then 1 else 0) ∧ ∀ i, 1 ≤ i → k + i < N → y.2 (k + i) = bI (x (k + i) ^^ (decide (i < j) && (decide (i ≤ w) && p.testBit (w - i)))))
    (fun r => ∀ i, 1 ≤ i → k + i < N → r.2 (k + i) = bI (x (k + i) ^^ (decide (i ≤ w) && p.testBit (w - i)))) (w + 1)
    (fun f y hy => by
      obtain ⟨l, v⟩ := y
      obtain ⟨e1, e2, e3⟩ := hy
      replace e1 : l = nI (w + 1) := e1
      subst e1
      refine ⟨_, by show q_L_sumRest_L220 _ _ _ _ (f + 1) (nI (w + 1)) v = _; rw [q_L_sumRest_L220, if_pos (nI_lt (by omega) (by omega))], fun i hi hn => ?_⟩
      have e := e3 i hi hn
      dsimp only at e ⊢
      rw [e]
      by_cases c : i ≤ w
      · rw [decide_eq_true (show i < w + 1 by omega), Bool.true_and]
      · rw [decide_eq_false c, Bool.false_and, Bool.and_false])
    (fun f j y hj hy => by
      obtain ⟨l, v⟩ := y
      obtain ⟨e1, e2, e3⟩ := hy
      replace e1 : l = nI j := e1
      subst e1
      replace e2 : v k = 1 := Eq.trans e2 (if_pos (by omega))
      replace e3 : ∀ i, 1 ≤ i → k + i < N → v (k + i) = bI (x (k + i) ^^ (decide (i < j) && (decide (i ≤ w) && p.testBit (w - i)))) := e3
      show _ ∨ ∃ s' : Int32 × (Nat → Int32), q_L_sumRest_L220 _ _ _ _ (f + 1) (nI j) v = q_L_sumRest_L220 _ _ _ _ f s'.1 s'.2 ∧ _
      by_cases c : j = w
      · subst c
        refine Or.inr ⟨(nI (j + 1), upd (upd v (k + j) (bI (x (k + j) ^^ p.testBit 0))) k 0), ?_, rfl, ?_, fun i hi hn => ?_⟩
        · rw [q_L_sumRest_L220, if_neg (nI_nlt (Nat.le_refl _) (by omega)), if_pos (xinI (by omega) (by omega)), nI_clamp (by omega), e2, if_neg (by decide), if_neg (show ¬ ¬ nI j = nI j from fun z => z rfl), nI_add, if_pos (xinI (by omega) (by omega)), if_pos (xinI (by omega) (by omega)), nI_clamp (by omega), e3 j h1 hk, pbit0 hp64, if_pos (xinI (by omega) (by omega)), nI_1, decide_eq_false (Nat.lt_irrefl j), Bool.false_and, Bool.xor_false, bI_xor]
          rfl
        · show upd _ k 0 k = _
          rw [upd_eq, if_neg (by omega)]
        · show upd _ k 0 (k + i) = _
          rw [upd_ne (by omega)]
          by_cases q : i = j
          · subst q
            rw [upd_eq, decide_eq_true (show i < i + 1 by omega), decide_eq_true (Nat.le_refl i), Bool.true_and, Bool.true_and, Nat.sub_self]
          · rw [upd_ne (by omega), e3 i hi hn]
            by_cases q2 : i < j
            · rw [decide_eq_true q2, decide_eq_true (show i < j + 1 by omega)]
            · rw [decide_eq_false q2, decide_eq_false (show ¬ i < j + 1 by omega)]
      · have cn : nI j ≠ nI w := ne_of_nI c (by omega) (by omega)
        by_cases z : j = 0
        · subst z
          refine Or.inr ⟨(nI 1, v), ?_, rfl, by show v k = _; rw [e2, if_pos (by omega)], fun i hi hn => ?_⟩
          · rw [q_L_sumRest_L220, if_neg (nI_nlt (by omega) (by omega)), if_pos (xinI (by omega) (by omega)), nI_clamp (by omega), e2, if_neg (by decide), if_pos cn, if_pos (show nI 0 ≤ (0 : Int32) by decide)]
            rfl
          · show v (k + i) = _
            rw [e3 i hi hn, decide_eq_false (show ¬ i < 0 by omega), decide_eq_false (show ¬ i < 1 by omega)]
        · refine Or.inr ⟨(nI (j + 1), upd v (k + j) (bI (x (k + j) ^^ p.testBit (w - j)))), ?_, rfl, ?_, fun i hi hn => ?_⟩
          · rw [q_L_sumRest_L220, if_neg (nI_nlt (by omega) (by omega)), if_pos (xinI (by omega) (by omega)), nI_clamp (by omega), e2, if_neg (by decide), if_pos cn, if_neg (show ¬ nI j ≤ (0 : Int32) from nI_nle (by omega) (by omega)), nI_add, if_pos (xinI (by omega) (by omega)), if_pos (xinI (by omega) (by omega)), nI_clamp (by omega), e3 j (by omega) (by omega), nI_sub (by omega), pbit hp64 (by omega), nI_1, decide_eq_false (Nat.lt_irrefl j), Bool.false_and, Bool.xor_false, bI_xor]
          · show upd _ _ _ k = _
            rw [upd_ne (by omega), e2, if_pos (by omega)]
          · show upd _ _ _ (k + i) = _
            by_cases q : i = j
            · subst q
              rw [upd_eq, decide_eq_true (show i < i + 1 by omega), decide_eq_true (show i ≤ w by omega), Bool.true_and, Bool.true_and]
            · rw [upd_ne (by omega), e3 i hi hn]
              by_cases q2 : i < j
              · rw [decide_eq_true q2, decide_eq_true (show i < j + 1 by omega)]
              · rw [decide_eq_false q2, decide_eq_false (show ¬ i < j + 1 by omega)])
    10000 0 (nI 0, an) ⟨rfl, by show an k = _; rw [ha k (Nat.le_refl _) (by omega), ht, if_pos (by omega)]; rfl, fun i hi hn => by show an (k + i) = _; rw [ha _ (by omega) hn, decide_eq_false (show ¬ i < 0 by omega), Bool.false_and, Bool.xor_false]⟩ (Nat.zero_le _) (by omega)
  exact ⟨r, hr, g⟩
theorem div210 {w p s N many : Nat} {b : Nat → Bool} {an : Nat → Int32} (h1 : 1 ≤ w) (h : w ≤ 32) (hp : p < 2 ^ w) (hN : N = many + w) (hN2 : N ≤ 1000) (ha : ∀ j, j < N → an j = bI (av w p b s 0 j)) :
    ∃ r, q_L_sumRest_L210 (nI w) (lN p) (nI many) N 10000 0 an = some r ∧ ∀ j, many ≤ j → j < N → r.2 j = bI (av w p b s many j) := by
  obtain ⟨r, hr, g⟩ := loop_inv (F := fun f (y : Int32 × (Nat → Int32)) => q_L_sumRest_L210 (nI w) (lN p) (nI many) N f y.1 y.2)
    (fun k y => y.1 = nI k ∧ ∀ j, k ≤ j → j < N → y.2 j = bI (av w p b s k j)) (fun r => ∀ j, many ≤ j → j < N → r.2 j = bI (av w p b s many j)) many
    (fun f y hy => by
      obtain ⟨l, v⟩ := y
      obtain ⟨e1, e2⟩ := hy
      replace e1 : l = nI many := e1
      subst e1
      exact ⟨_, by show q_L_sumRest_L210 _ _ _ _ (f + 1) (nI many) v = _; rw [q_L_sumRest_L210, if_pos (nI_le (Nat.le_refl _) (by omega))], e2⟩)
    (fun f k y hk hy => by
      obtain ⟨l, v⟩ := y
      obtain ⟨e1, e2⟩ := hy
      replace e1 : l = nI k := e1
      replace e2 : ∀ j, k ≤ j → j < N → v j = bI (av w p b s k j) := e2
      subst e1
      show _ ∨ ∃ s' : Int32 × (Nat → Int32), q_L_sumRest_L210 _ _ _ _ (f + 1) (nI k) v = q_L_sumRest_L210 _ _ _ _ f s'.1 s'.2 ∧ _
      have key : ∃ r, q_L_sumRest_L220 (nI w) (lN p) (nI k) N 10000 0 v = some r ∧ ∀ i, 1 ≤ i → k + i < N → r.2 (k + i) = bI (av w p b s (k + 1) (k + i)) := by
        cases t : av w p b s k k with
        | true =>
          obtain ⟨r, r1, r2⟩ := inn220 (x := av w p b s k) h1 h hp (show k + w < N by omega) hN2 t e2
          refine ⟨r, r1, fun i hi hn => ?_⟩
          rw [r2 i hi hn, av_step h1 hi, t, Bool.true_and]
        | false =>
          refine ⟨(0, v), ?_, fun i hi hn => ?_⟩
          · show q_L_sumRest_L220 _ _ _ _ (9999 + 1) 0 v = _
            rw [q_L_sumRest_L220, if_neg (show ¬ nI w < (0 : Int32) from nI_nlt (a := w) (b := 0) (by omega) (by omega)), if_pos (xinI (by omega) (by omega)), nI_clamp (by omega), e2 k (Nat.le_refl _) (by omega), t, if_pos (show bI false = 0 from rfl)]
          · show v (k + i) = _
            rw [e2 _ (by omega) hn, av_step h1 hi, t, Bool.false_and, Bool.xor_false]
      obtain ⟨r, r1, r2⟩ := key
      refine Or.inr ⟨(nI (k + 1), r.2), ?_, rfl, fun j hj hn => ?_⟩
      · rw [q_L_sumRest_L210, if_neg (nI_ge hk (by omega)), r1, Option.bind_some, nI_1]
      · have := r2 (j - k) (by omega) (by omega)
        rw [show k + (j - k) = j by omega] at this
        exact this)
    10000 0 (nI 0, an) ⟨rfl, fun j _ hj => ha j hj⟩ (Nat.zero_le _) (by omega)
  exact ⟨r, hr, g⟩
theorem fill70 {a b m N : Nat} {B : Nat → Nat} {a49 an : Nat → Int32} (hab : a ≤ b) (hb : b ≤ 64) (hm : m < 4) (hN : 8 * (b - a) ≤ N) (hN2 : N ≤ 1000) (hB : ∀ k, k < b → B k < 256 ∧ a49 k = nI (B k)) (ha : ∀ j, an j = 0) :
    ∃ r, q_L_sumRest_L70 (nI a) (nI b) (nI m) a49 N 10000 0 an = some r ∧ ∀ j, r.2 j = bI (decide (j < 8 * (b - a)) && mb (m % 2) B a j) := by
  have e8 : (8 : Int32) * (nI b - nI a) = nI (8 * (b - a)) := by rw [nI_sub hab, k8, nI_mul]
  obtain ⟨r, hr, g⟩ := loop_inv (F := fun f (y : Int32 × (Nat → Int32)) => q_L_sumRest_L70 (nI a) (nI b) (nI m) a49 N f y.1 y.2)
    (fun k y => y.1 = nI k ∧ ∀ j, y.2 j = bI (decide (j < k) && mb (m % 2) B a j)) (fun r => ∀ j, r.2 j = bI (decide (j < 8 * (b - a)) && mb (m % 2) B a j)) (8 * (b - a))
    (fun f y hy => by
      obtain ⟨l, v⟩ := y
      obtain ⟨e1, e2⟩ := hy
      replace e1 : l = nI (8 * (b - a)) := e1
      subst e1
      exact ⟨_, by show q_L_sumRest_L70 _ _ _ _ _ (f + 1) (nI _) v = _; rw [q_L_sumRest_L70, e8, if_pos (nI_le (Nat.le_refl _) (by omega))], e2⟩)
    (fun f k y hk hy => by
      obtain ⟨l, v⟩ := y
      obtain ⟨e1, e2⟩ := hy
      replace e1 : l = nI k := e1
      replace e2 : ∀ j, v j = bI (decide (j < k) && mb (m % 2) B a j) := e2
      subst e1
      show _ ∨ ∃ s' : Int32 × (Nat → Int32), q_L_sumRest_L70 _ _ _ _ _ (f + 1) (nI k) v = q_L_sumRest_L70 _ _ _ _ _ f s'.1 s'.2 ∧ _
      have hq : a + k / 8 < b := by omega
      obtain ⟨b1, b2⟩ := hB _ hq
      have eD : nI a + nI k / 8 = nI (a + k / 8) := by rw [k8, nI_div (by omega) (by omega) (by omega), nI_add]
      have eM : nI k - nI k / 8 * 8 = nI (k % 8) := by rw [k8, nI_mod (by omega) (by omega) (by omega)]
      have eS : (7 : Int32) - nI (k % 8) = nI (7 - k % 8) := by rw [k7, nI_sub (by omega)]
      have fin : ∀ u : Bool, u = mb (m % 2) B a k → ∀ j, upd v k (bI u) j = bI (decide (j < k + 1) && mb (m % 2) B a j) := by
        intro u hu j
        by_cases q : j = k
        · subst q
          rw [upd_eq, decide_eq_true (show j < j + 1 by omega), Bool.true_and, hu]
        · rw [upd_ne q, e2]
          by_cases q2 : j < k
          · rw [decide_eq_true q2, decide_eq_true (show j < k + 1 by omega)]
          · rw [decide_eq_false q2, decide_eq_false (show ¬ j < k + 1 by omega)]
      have one : ∀ sh, sh < 32 → (xus (nI (B (a + k / 8))) (nI sh)) &&& 1 = nI ((B (a + k / 8)).testBit sh).toNat := by
        intro sh hs
        rw [nI_xus (by omega) hs, k1, nI_and, and1, tb_div]
      refine Or.inr ⟨(nI (k + 1), upd v k (bI (mb (m % 2) B a k))), ?_, rfl, fin _ rfl⟩
      rw [q_L_sumRest_L70, e8, if_neg (nI_ge hk (by omega)), eD, eM, eS, nI_1, nI_clamp (by omega), nI_clamp (by omega), b2]
      by_cases c : m % 2 = 0
      · rw [if_pos ((and1m m hm).mpr c), if_pos (xinI (by omega) (by omega)), one _ (by omega)]
        have eb : mb (m % 2) B a k = (B (a + k / 8)).testBit (7 - k % 8) := by unfold mb; rw [if_pos c]
        rw [eb]
        cases (B (a + k / 8)).testBit (7 - k % 8)
        · rw [if_pos (show ¬ nI (Bool.toNat false) = 1 by decide), if_pos (xinI (by omega) (by omega))]; rfl
        · rw [if_neg (show ¬ ¬ nI (Bool.toNat true) = 1 by decide), if_pos (xinI (by omega) (by omega))]; rfl
      · rw [if_neg (fun z => c ((and1m m hm).mp z)), if_pos (xinI (by omega) (by omega)), one _ (by omega)]
        have eb : mb (m % 2) B a k = (B (a + k / 8)).testBit (k % 8) := by unfold mb; rw [if_neg c]
        rw [eb]
        cases (B (a + k / 8)).testBit (k % 8)
        · rw [if_pos (show ¬ nI (Bool.toNat false) = 1 by decide), if_pos (xinI (by omega) (by omega))]; rfl
        · rw [if_neg (show ¬ ¬ nI (Bool.toNat true) = 1 by decide), if_pos (xinI (by omega) (by omega))]; rfl)
    10000 0 (nI 0, an) ⟨rfl, fun j => by show an j = _; rw [ha j, decide_eq_false (Nat.not_lt_zero j), Bool.false_and]; rfl⟩ (Nat.zero_le _) (by omega)
  exact ⟨r, hr, g⟩
theorem lay164 {w s N : Nat} {b : Nat → Bool} {an : Nat → Int32} (h1 : 1 ≤ w) (h : w ≤ 32) (hs : s < 2 ^ w) (hN : w ≤ N) (hN2 : N ≤ 1000) (ha : ∀ j, j < N → an j = bI (b j)) :
    ∃ r, q_L_sumRest_L164 (nI w) (lN s) N 10000 0 an = some r ∧ ∀ j, j < N → r.2 j = bI ((decide (j < w) && s.testBit (w - 1 - j)) ^^ b j) := by
  have hw := pow_le h
  obtain ⟨r, hr, g⟩ := loop_inv (F := fun f (y : Int32 × (Nat → Int32)) => q_L_sumRest_L164 (nI w) (lN s) N f y.1 y.2)
    (fun k y => y.1 = nI k ∧ ∀ j, j < N → y.2 j = bI ((decide (j < k) && s.testBit (w - 1 - j)) ^^ b j)) (fun r => ∀ j, j < N → r.2 j = bI ((decide (j < w) && s.testBit (w - 1 - j)) ^^ b j)) w
    (fun f y hy => by
      obtain ⟨l, v⟩ := y
      obtain ⟨e1, e2⟩ := hy
      replace e1 : l = nI w := e1
      subst e1
      exact ⟨_, by show q_L_sumRest_L164 _ _ _ (f + 1) (nI _) v = _; rw [q_L_sumRest_L164, if_pos (nI_le (Nat.le_refl _) (by omega))], e2⟩)
    (fun f k y hk hy => by
      obtain ⟨l, v⟩ := y
      obtain ⟨e1, e2⟩ := hy
      replace e1 : l = nI k := e1
      replace e2 : ∀ j, j < N → v j = bI ((decide (j < k) && s.testBit (w - 1 - j)) ^^ b j) := e2
      subst e1
      refine Or.inr ⟨(nI (k + 1), upd v k (bI (b k ^^ s.testBit (w - 1 - k)))), ?_, rfl, fun j hj => ?_⟩
      · show q_L_sumRest_L164 _ _ _ (f + 1) (nI k) v = q_L_sumRest_L164 _ _ _ f (nI (k + 1)) _
        rw [q_L_sumRest_L164, if_neg (nI_ge hk (by omega)), if_pos (xinI (by omega) (by omega)), if_pos (xinI (by omega) (by omega)), nI_clamp (by omega), e2 k (by omega), nI_pred' h1, nI_sub (by omega), pbit (by omega) (by omega), nI_1, decide_eq_false (Nat.lt_irrefl k), Bool.false_and, Bool.false_xor, bI_xor]
      · show upd v k _ j = _
        by_cases q : j = k
        · subst q
          rw [upd_eq, decide_eq_true (show j < j + 1 by omega), Bool.true_and, Bool.xor_comm]
        · rw [upd_ne q, e2 j hj]
          by_cases q2 : j < k
          · rw [decide_eq_true q2, decide_eq_true (show j < k + 1 by omega)]
          · rw [decide_eq_false q2, decide_eq_false (show ¬ j < k + 1 by omega)])
    10000 0 (nI 0, an) ⟨rfl, fun j hj => by show an j = _; rw [ha j hj, decide_eq_false (Nat.not_lt_zero j), Bool.false_and, Bool.false_xor]⟩ (Nat.zero_le _) (by omega)
  exact ⟨r, hr, g⟩
theorem rest331 {w many N x : Nat} {an : Nat → Int32} (h : w ≤ 32) (hN : N = many + w) (hN2 : N ≤ 1000) (hx : x < 2 ^ w) (ha : ∀ i, i < w → an (many + i) = bI (x.testBit (w - 1 - i))) :
    ∃ r, q_L_sumRest_L331 (nI w) (nI many) N an 10000 0 (nI many) = some r ∧ r.1 = lN x := by
  have hw := pow_le h
  obtain ⟨r, hr, g⟩ := loop_inv (F := fun f (y : Int64 × Int32) => q_L_sumRest_L331 (nI w) (nI many) N an f y.1 y.2)
    (fun i y => y = (lN (x / 2 ^ (w - i)), nI (many + i))) (fun r => r.1 = lN x) w
    (fun f y hy => by
      subst hy
      refine ⟨_, by show q_L_sumRest_L331 _ _ _ _ (f + 1) (lN _) (nI _) = _; rw [q_L_sumRest_L331, nI_add, if_pos (nI_le (Nat.le_refl _) (by omega))], ?_⟩
      show lN (x / 2 ^ (w - w)) = _
      rw [Nat.sub_self, Nat.pow_zero, Nat.div_one])
    (fun f i y hi hy => by
      subst hy
      refine Or.inr ⟨_, ?_, rfl⟩
      show q_L_sumRest_L331 _ _ _ _ (f + 1) (lN _) (nI (many + i)) = q_L_sumRest_L331 _ _ _ _ f (lN (x / 2 ^ (w - (i + 1)))) (nI (many + (i + 1)))
      rw [q_L_sumRest_L331, nI_add, if_neg (nI_ge (by omega) (by omega)), if_pos (xinI (by omega) (by omega)), nI_clamp (by omega), ha i hi, nI_1, show (1 : Int32) = nI 1 from rfl, lN_shl _ (by omega)]
      have eb : (if bI (x.testBit (w - 1 - i)) = 0 then (0 : Int64) else 1) = lN (x.testBit (w - 1 - i)).toNat := by cases x.testBit (w - 1 - i) <;> rfl
      rw [eb, lN_or]
      congr 2
      have e2 : x / 2 ^ (w - i) = x / 2 ^ (w - (i + 1)) / 2 := by
        rw [Nat.div_div_eq_div_mul, show w - i = (w - (i + 1)) + 1 by omega, Nat.pow_succ]
      have e3 : (x.testBit (w - 1 - i)).toNat = x / 2 ^ (w - (i + 1)) % 2 := by
        rw [tb_div, show w - (i + 1) = w - 1 - i by omega]
      rw [e2, e3, Nat.or_comm, or_add (by omega)]
      omega)
    10000 0 (0, nI many) (by show _ = (lN (x / 2 ^ (w - 0)), nI (many + 0)); rw [Nat.sub_zero, Nat.div_eq_of_lt hx]; rfl) (Nat.zero_le _) (by omega)
  exact ⟨r, hr, g⟩
theorem mirL {x n : Nat} (hx : x < 18446744073709551616) (hn : n ≤ 32) : q_L_mirrored (lN x) (nI n) = some (lN (mir x n)) := by
  obtain ⟨r, hr, g⟩ := loop_inv (F := fun f (y : Int64 × Int32) => q_L_mirrored_L5 (lN x) (nI n) f y.1 y.2)
    (fun j y => y = (lN (mir x j * 2 ^ (n - j)), nI j)) (fun r => r.1 = lN (mir x n)) n
    (fun f y hy => by
      subst hy
      refine ⟨_, by show q_L_mirrored_L5 _ _ (f + 1) (lN _) (nI _) = _; rw [q_L_mirrored_L5, if_pos (nI_le (Nat.le_refl _) (by omega))], ?_⟩
      show lN (mir x n * 2 ^ (n - n)) = _
      rw [Nat.sub_self, Nat.pow_zero, Nat.mul_one])
    (fun f j y hj hy => by
      subst hy
      refine Or.inr ⟨_, ?_, rfl⟩
      show q_L_mirrored_L5 _ _ (f + 1) (lN _) (nI j) = q_L_mirrored_L5 _ _ f (lN (mir x (j + 1) * 2 ^ (n - (j + 1)))) (nI (j + 1))
      rw [q_L_mirrored_L5, if_neg (nI_ge hj (by omega)), lN_xul hx (by omega), show (1 : Int64) = lN 1 from rfl, lN_and, and1, tb_div, nI_pred' (by omega), nI_sub (by omega), lN_shl _ (by omega), lN_or, nI_1]
      congr 2
      have hb := bool_lt (x.testBit j)
      have e1 : 2 ^ (n - j) = 2 ^ (n - 1 - j) * 2 := by rw [show n - j = (n - 1 - j) + 1 by omega, Nat.pow_succ]
      have hp := Nat.two_pow_pos (n - 1 - j)
      rw [Nat.or_comm, or_add (by rw [e1, Nat.mul_comm]; exact Nat.mul_lt_mul_of_pos_left hb hp), show n - (j + 1) = n - 1 - j by omega]
      show 2 ^ (n - j) * mir x j + (x.testBit j).toNat * 2 ^ (n - 1 - j) = (2 * mir x j + (x.testBit j).toNat) * 2 ^ (n - 1 - j)
      rw [e1, Nat.add_mul, Nat.mul_comm 2 (mir x j), Nat.mul_assoc, Nat.mul_assoc, Nat.mul_comm (2 ^ (n - 1 - j)) (2 * mir x j), Nat.mul_comm 2 (mir x j), Nat.mul_assoc])
    10000 0 (0, nI 0) (by show _ = (lN (0 * 2 ^ (n - 0)), nI 0); rw [Nat.zero_mul]; rfl) (Nat.zero_le _) (by omega)
  unfold q_L_mirrored
  have hr' : q_L_mirrored_L5 (lN x) (nI n) 10000 0 0 = some r := hr
  rw [hr', Option.bind_some, g]
theorem sumOfT {a b z w p s e m : Nat} {B : Nat → Nat} {x4 c2 c3 : Int32} {c4 c5 c6 : Int64} {a49 : Nat → Int32} (h1 : 1 ≤ w) (h : w ≤ 32) (hp : p < 2 ^ w) (hs : s < 2 ^ w) (he : e < 2 ^ w) (hm : m < 4) (hab : a ≤ b) (hb : b ≤ 64) (hz : z ≤ 40)
    (e2 : (if x4 = (0 : Int32) then c2 else 32) = nI w) (e3 : (if x4 = (0 : Int32) then c3 else 3) = nI m) (e4 : (if x4 = (0 : Int32) then c4 else 517762881) = lN p) (e5 : (if x4 = (0 : Int32) then c5 else 4294967295) = lN s) (e6 : (if x4 = (0 : Int32) then c6 else 4294967295) = lN e)
    (hB : ∀ k, k < b → B k < 256 ∧ a49 k = nI (B k)) :
    q_L_sumOf (nI a) (nI b) (nI z) x4 c2 c3 c4 c5 c6 a49 = some (lN (outS w (m / 2) e (reg w p (m % 2) (fun k => if k < b then B k else 0) a s (b - a + z)))) := by
  have hw := pow_le h
  have eMa : (8 : Int32) * ((nI b - nI a) + nI z) = nI (8 * (b - a + z)) := by rw [nI_sub hab, nI_add, k8, nI_mul]
  unfold q_L_sumOf
  rw [e2, e3, e4, eMa, nI_add, nI_clamp (by omega)]
  rw [if_pos (by
    rw [Bool.and_eq_true]
    refine ⟨?_, Nat.ble_eq_true_of_le (by omega)⟩
    rw [decide_eq_false (nI_pos (by omega))]
    rfl)]
  obtain ⟨r1, f1, g1⟩ := fill70 (N := 8 * (b - a + z) + w) (a49 := a49) (an := fun _ => 0) hab hb hm (by omega) (by omega) hB (fun _ => rfl)
  obtain ⟨bb, hbb⟩ : ∃ bb : Nat → Bool, bb = fun j => decide (j < 8 * (b - a)) && mb (m % 2) B a j := ⟨_, rfl⟩
  obtain ⟨r2, f2, g2⟩ := lay164 (N := 8 * (b - a + z) + w) (b := bb) (an := r1.2) h1 h hs (by omega) (by omega) (fun j _ => by rw [g1 j, hbb])
  obtain ⟨r3, f3, g3⟩ := div210 (N := 8 * (b - a + z) + w) (many := 8 * (b - a + z)) (b := bb) (s := s) (an := r2.2) h1 h hp rfl (by omega) (fun j hj => by
    rw [g2 j hj]
    unfold av
    rw [Nat.zero_add, Nat.sub_zero]
    rfl)
  have hl := rb_lt (b := bb) hp hs (8 * (b - a + z))
  obtain ⟨r4, f4, g4⟩ := rest331 (N := 8 * (b - a + z) + w) (many := 8 * (b - a + z)) (x := rb w p bb s (8 * (b - a + z))) (an := r3.2) h rfl (by omega) hl (fun i hi => by
    rw [g3 _ (by omega) (by omega)]
    unfold av
    rw [decide_eq_true (show 8 * (b - a + z) + i < 8 * (b - a + z) + w by omega), Bool.true_and, show 8 * (b - a + z) + i - 8 * (b - a + z) = i by omega, show bb (8 * (b - a + z) + i) = false by rw [hbb]; show (decide _ && _) = false; rw [decide_eq_false (by omega), Bool.false_and], Bool.xor_false])
  have hreg : rb w p bb s (8 * (b - a + z)) = reg w p (m % 2) (fun k => if k < b then B k else 0) a s (b - a + z) := by
    rw [← rb_reg]
    apply rb_congr
    intro j hj
    rw [hbb]
    show (decide (j < 8 * (b - a)) && mb (m % 2) B a j) = mb (m % 2) (fun k => if k < b then B k else 0) a j
    unfold mb
    dsimp only
    by_cases c : j < 8 * (b - a)
    · rw [decide_eq_true c, Bool.true_and, if_pos (show a + j / 8 < b by omega)]
    · rw [decide_eq_false c, Bool.false_and, if_neg (show ¬ a + j / 8 < b by omega), Nat.zero_testBit]
  unfold q_L_sumRest
  have f1' : q_L_sumRest_L70 (nI a) (nI b) (nI m) a49 (8 * (b - a + z) + w) 10000 0 (fun _ => 0) = some r1 := f1
  rw [f1', Option.bind_some, e5, e6, f2, Option.bind_some, f3, Option.bind_some, f4, Option.bind_some, g4, hreg]
  rw [hreg] at hl
  unfold outS
  by_cases c : m / 2 = 0
  · rw [if_pos ((and2m m hm).mpr c), if_pos c, lN_xor]
    rfl
  · rw [if_neg (fun q => c ((and2m m hm).mp q)), if_neg c, mirL (by omega) h, Option.bind_some, lN_xor]
    rfl

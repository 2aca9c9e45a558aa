/-! Sums: registers as numbers. -/
def fb (w p r : Nat) (c : Bool) : Nat := kT w p (r ^^^ (c.toNat * 2 ^ (w - 1)))
def f8 (w p v : Nat) : Nat → Nat → Nat
  | 0, r => r
  | k + 1, r => f8 w p v k (fb w p r (v.testBit k))
def mir (x : Nat) : Nat → Nat
  | 0 => 0
  | k + 1 => 2 * mir x k + (x.testBit k).toNat
def feed (w p mi r v : Nat) : Nat := f8 w p (if mi = 0 then v else mir v 8) 8 r
def reg (w p mi : Nat) (B : Nat → Nat) (a s : Nat) : Nat → Nat
  | 0 => s
  | n + 1 => feed w p mi (reg w p mi B a s n) (B (a + n))
def outS (w mo e r : Nat) : Nat := (if mo = 0 then r else mir r w) ^^^ e
theorem mir_lt (x : Nat) : ∀ n, mir x n < 2 ^ n := by
  intro n
  induction n with
  | zero => exact Nat.two_pow_pos 0
  | succ n ih => have := bool_lt (x.testBit n); show 2 * mir x n + _ < _; rw [Nat.pow_succ]; omega
theorem fb_lt {w p r : Nat} {c : Bool} (hp : p < 2 ^ w) : fb w p r c < 2 ^ w := kT_lt hp
theorem f8_lt {w p v : Nat} (hp : p < 2 ^ w) : ∀ k r, r < 2 ^ w → f8 w p v k r < 2 ^ w := by
  intro k
  induction k with
  | zero => intro r h; exact h
  | succ k ih => intro r _; exact ih _ (fb_lt hp)
theorem feed_lt {w p mi r v : Nat} (hp : p < 2 ^ w) (hr : r < 2 ^ w) : feed w p mi r v < 2 ^ w := f8_lt hp 8 r hr
theorem reg_lt {w p mi : Nat} {B : Nat → Nat} {a s : Nat} (hp : p < 2 ^ w) (hs : s < 2 ^ w) : ∀ n, reg w p mi B a s n < 2 ^ w := by
  intro n
  induction n with
  | zero => exact hs
  | succ n ih => exact feed_lt hp ih
theorem outS_lt {w mo e r : Nat} (he : e < 2 ^ w) (hr : r < 2 ^ w) : outS w mo e r < 2 ^ w := by
  unfold outS
  split
  · exact Nat.xor_lt_two_pow hr he
  · exact Nat.xor_lt_two_pow (mir_lt r w) he
theorem top_lt {w r : Nat} {c : Bool} (h1 : 1 ≤ w) (hr : r < 2 ^ w) : r ^^^ (c.toNat * 2 ^ (w - 1)) < 2 ^ w := by
  refine Nat.xor_lt_two_pow hr ?_
  cases c
  · show 0 * _ < _; rw [Nat.zero_mul]; exact Nat.two_pow_pos w
  · show 1 * _ < _; rw [Nat.one_mul]; exact Nat.pow_lt_pow_right (by decide) (by omega)
theorem fbI {w p r v k : Nat} (h1 : 1 ≤ w) (h : w ≤ 32) (hr : r < 2 ^ w) (hv : v < 4294967296) (hk : k < 32) :
    t_X1_timesZ (nI r ^^^ (((xus (nI v) (nI k)) &&& 1) <<< ((nI w - 1) &&& 31))) (nI w) (nI p) = nI (fb w p r (v.testBit k)) := by
  rw [nI_pred' h1, nI_xus hv hk, k1, nI_and, and1, tb_div, nI_shl _ (by omega), nI_xor, timesZI h1 h (top_lt h1 hr)]
  rfl
theorem fed25 {w p v : Nat} (h1 : 1 ≤ w) (h : w ≤ 32) (hp : p < 2 ^ w) (hv : v < 4294967296) : ∀ k f r, k ≤ 8 → k < f → r < 2 ^ w →
    ∃ x : Int32 × Int32, q_X1_fed_L25 (nI v) (nI w) (nI p) f (nI r) (nI k + (-1)) = some x ∧ x.1 = nI (f8 w p v k r) := by
  intro k
  induction k with
  | zero =>
    intro f r _ hf _
    obtain ⟨f, rfl⟩ : ∃ g, f = g + 1 := ⟨f - 1, by omega⟩
    exact ⟨_, by rw [q_X1_fed_L25, if_pos (by decide)], rfl⟩
  | succ k ih =>
    intro f r hk hf hr
    obtain ⟨f, rfl⟩ : ∃ g, f = g + 1 := ⟨f - 1, by omega⟩
    rw [nI_m1 (by omega), show k + 1 - 1 = k by omega, q_X1_fed_L25, if_neg (nI_pos (by omega)), fbI h1 h hr hv (by omega)]
    exact ih f _ (by omega) (by omega) (fb_lt hp)
theorem mirI {x n : Nat} (hx : x < 4294967296) (hn : n ≤ 32) : q_X1_mirrored (nI x) (nI n) = some (nI (mir x n)) := by
  obtain ⟨r, hr, g⟩ := loop_inv (F := fun f (y : Int32 × Int32) => q_X1_mirrored_L4 (nI x) (nI n) f y.1 y.2)
    (fun j y => y = (nI (mir x j), nI j)) (fun r => r.1 = nI (mir x n)) n
    (fun f y h => by
      subst h
      exact ⟨_, by show q_X1_mirrored_L4 _ _ (f + 1) (nI _) (nI n) = _; rw [q_X1_mirrored_L4, if_pos (nI_le (Nat.le_refl _) (by omega))], rfl⟩)
    (fun f j y hj h => by
      subst h
      refine Or.inr ⟨_, ?_, rfl⟩
      show q_X1_mirrored_L4 _ _ (f + 1) (nI _) (nI j) = q_X1_mirrored_L4 _ _ f (nI (mir x (j + 1))) (nI (j + 1))
      rw [q_X1_mirrored_L4, if_neg (nI_ge hj (by omega)), nI_xus hx (by omega), k1, nI_and, and1, tb_div, nI_shl _ (k := 1) (by omega), nI_or, nI_add]
      congr 2
      rw [Nat.or_comm, or_add (by have := bool_lt (x.testBit j); rw [Nat.pow_one]; exact this), Nat.pow_one]
      rfl)
    10000 0 (nI 0, nI 0) rfl (Nat.zero_le _) (by omega)
  have hr' : q_X1_mirrored_L4 (nI x) (nI n) 10000 0 0 = some r := hr
  unfold q_X1_mirrored
  rw [hr', Option.bind_some, g]
theorem fedI {w p r v mi : Nat} (h1 : 1 ≤ w) (h : w ≤ 32) (hp : p < 2 ^ w) (hr : r < 2 ^ w) (hv : v < 256) (hm : mi < 2) : q_X1_fed (nI r) (nI v) (nI w) (nI p) (nI mi) = some (nI (feed w p mi r v)) := by
  unfold q_X1_fed feed
  by_cases c : mi = 0
  · subst c
    obtain ⟨x, e1, e2⟩ := fed25 h1 h hp (v := v) (by omega) 8 10000 r (by omega) (by omega) hr
    have e1 : q_X1_fed_L25 (nI v) (nI w) (nI p) 10000 (nI r) 7 = some x := e1
    rw [if_pos (show nI 0 = 0 from rfl), if_pos rfl, e1, Option.bind_some, e2]
  · have := mir_lt v 8
    obtain ⟨x, e1, e2⟩ := fed25 h1 h hp (v := mir v 8) (by omega) 8 10000 r (by omega) (by omega) hr
    have e1 : q_X1_fed_L25 (nI (mir v 8)) (nI w) (nI p) 10000 (nI r) 7 = some x := e1
    have e3 := mirI (x := v) (n := 8) (by omega) (by omega)
    rw [if_neg (show ¬ nI mi = 0 from ne_of_nI (b := 0) c (by omega) (by decide)), if_neg c, show (8 : Int32) = nI 8 from rfl, e3, Option.bind_some, e1, Option.bind_some, e2]
theorem sumOfR {w r e mo : Nat} (h : w ≤ 32) (hr : r < 2 ^ w) (he : e < 2 ^ w) : q_X1_sumOfRegister (nI r) (nI w) (nI e) (nI mo) = some (lN (outS w mo e r)) ∨ ¬ mo < 2 := by
  by_cases hm : mo < 2
  · left
    have hw := pow_le h
    have hl := outS_lt (mo := mo) he hr
    unfold q_X1_sumOfRegister outS at *
    by_cases c : mo = 0
    · subst c
      rw [if_pos rfl] at hl
      rw [if_pos (show nI 0 = 0 from rfl), if_pos rfl, nI_xor, nI_mask (by omega)]
    · rw [if_neg c] at hl
      rw [if_neg (show ¬ nI mo = 0 from ne_of_nI (b := 0) c (by omega) (by decide)), if_neg c, mirI (by omega) h, Option.bind_some, nI_xor, nI_mask (by omega)]
  · exact Or.inr hm
theorem sumI {w p s e mi mo a b : Nat} {B : Nat → Nat} {a2 : Nat → Int32} (h1 : 1 ≤ w) (h : w ≤ 32) (hp : p < 2 ^ w) (hs : s < 2 ^ w) (he : e < 2 ^ w) (hmi : mi < 2) (hmo : mo < 2) (hab : a ≤ b) (hb : b ≤ 64) (hB : ∀ k, k < b → B k < 256 ∧ a2 k = nI (B k)) :
    q_X1_sumOf (nI a) (nI b) (nI w) (nI p) (nI s) (nI e) (nI mi) (nI mo) a2 = some (lN (outS w mo e (reg w p mi B a s (b - a)))) := by
  obtain ⟨r, hr, g⟩ := loop_inv (F := fun f (y : Int32 × Int32) => q_X1_sumOf_L9 (nI b) (nI w) (nI p) (nI mi) a2 f y.1 y.2)
    (fun j y => y = (nI (reg w p mi B a s j), nI (a + j))) (fun r => r.1 = nI (reg w p mi B a s (b - a))) (b - a)
    (fun f y h => by
      subst h
      exact ⟨_, by show q_X1_sumOf_L9 _ _ _ _ _ (f + 1) (nI _) (nI _) = _; rw [q_X1_sumOf_L9, if_pos (nI_le (by omega) (by omega))], rfl⟩)
    (fun f j y hj hy => by
      subst hy
      refine Or.inr ⟨_, ?_, rfl⟩
      obtain ⟨v1, v2⟩ := hB (a + j) (by omega)
      show q_X1_sumOf_L9 _ _ _ _ _ (f + 1) (nI _) (nI (a + j)) = q_X1_sumOf_L9 _ _ _ _ _ f (nI (reg w p mi B a s (j + 1))) (nI (a + (j + 1)))
      rw [q_X1_sumOf_L9, if_neg (nI_ge (by omega) (by omega)), atI (by omega) (by omega), v2, fedI h1 h hp (reg_lt hp hs j) v1 hmi, Option.bind_some, nI_1]
      rfl)
    10000 0 (nI s, nI a) rfl (Nat.zero_le _) (by omega)
  have hr' : q_X1_sumOf_L9 (nI b) (nI w) (nI p) (nI mi) a2 10000 (nI s) (nI a) = some r := hr
  unfold q_X1_sumOf
  rw [hr', Option.bind_some, g]
  rcases sumOfR (mo := mo) h (reg_lt (mi := mi) (B := B) (a := a) hp hs (b - a)) he with e1 | e1
  · rw [e1]; rfl
  · exact absurd hmo e1
theorem fb_cases {w p r : Nat} {c : Bool} (h1 : 1 ≤ w) (hr : r < 2 ^ w) : fb w p r c = if r.testBit (w - 1) = c then 2 * r % 2 ^ w else (2 * r % 2 ^ w) ^^^ p := by
  obtain ⟨v, rfl⟩ : ∃ v, w = v + 1 := ⟨w - 1, by omega⟩
  unfold fb kT
  rw [show v + 1 - 1 = v by omega]
  have e1 : 2 * (r ^^^ c.toNat * 2 ^ v) % 2 ^ (v + 1) = 2 * r % 2 ^ (v + 1) := by
    apply Nat.eq_of_testBit_eq
    intro j
    rw [Nat.testBit_mod_two_pow, Nat.testBit_mod_two_pow]
    by_cases hj : j < v + 1
    · rw [decide_eq_true hj, Bool.true_and, Bool.true_and]
      cases j with
      | zero => rw [Nat.testBit_zero, Nat.testBit_zero, Nat.mul_mod_right, Nat.mul_mod_right]
      | succ j =>
        rw [Nat.testBit_succ, Nat.testBit_succ, Nat.mul_div_cancel_left _ (by decide), Nat.mul_div_cancel_left _ (by decide), Nat.testBit_xor, Nat.testBit_mul_two_pow, decide_eq_false (show ¬ v ≤ j by omega), Bool.false_and, Bool.xor_false]
    · rw [decide_eq_false hj, Bool.false_and, Bool.false_and]
  have e2 : (r ^^^ c.toNat * 2 ^ v).testBit v = (r.testBit v ^^ c) := by
    rw [Nat.testBit_xor, Nat.testBit_mul_two_pow, decide_eq_true (Nat.le_refl v), Nat.sub_self]
    cases c <;> cases r.testBit v <;> rfl
  rw [e1, tb_div, e2]
  cases r.testBit v <;> cases c <;> rfl
theorem and1m : ∀ m, m < 4 → (¬ (nI m &&& 1) = 1 ↔ m % 2 = 0) := by decide +kernel
theorem and2m : ∀ m, m < 4 → (¬ (nI m &&& 2) = 2 ↔ m / 2 = 0) := by decide +kernel
theorem reg_shift {w p mi s : Nat} {B C : Nat → Nat} {a : Nat} (n : Nat) (h : ∀ k, k < n → C k = B (a + k)) : reg w p mi C 0 s n = reg w p mi B a s n := by
  induction n with
  | zero => rfl
  | succ n ih =>
    show feed _ _ _ (reg w p mi C 0 s n) (C (0 + n)) = feed _ _ _ (reg w p mi B a s n) (B (a + n))
    rw [ih (fun k hk => h k (by omega)), Nat.zero_add, h n (by omega)]

/-! The calls sum and librarySum. -/
theorem mir_bit (x : Nat) : ∀ n i, (mir x n).testBit i = (decide (i < n) && x.testBit (n - 1 - i)) := by
  intro n
  induction n with
  | zero => intro i; rw [show mir x 0 = 0 from rfl, Nat.zero_testBit, decide_eq_false (Nat.not_lt_zero i), Bool.false_and]
  | succ n ih =>
    intro i
    have hb := bool_lt (x.testBit n)
    show (2 * mir x n + (x.testBit n).toNat).testBit i = _
    cases i with
    | zero =>
      rw [decide_eq_true (Nat.succ_pos n), Bool.true_and, show n + 1 - 1 - 0 = n by omega, Nat.testBit_zero]
      cases x.testBit n with
      | true => simp
      | false => simp
    | succ i =>
      rw [Nat.testBit_succ, show (2 * mir x n + (x.testBit n).toNat) / 2 = mir x n by omega, ih i, show n + 1 - 1 - (i + 1) = n - 1 - i by omega, show decide (i + 1 < n + 1) = decide (i < n) from decide_eq_decide.mpr (by omega)]
theorem kT_bit {w p r j : Nat} (h1 : 1 ≤ w) : (kT w p r).testBit j = ((decide (j < w) && (decide (1 ≤ j) && r.testBit (j - 1))) ^^ (r.testBit (w - 1) && p.testBit j)) := by
  have e : (2 * r % 2 ^ w).testBit j = (decide (j < w) && (decide (1 ≤ j) && r.testBit (j - 1))) := by
    rw [Nat.testBit_mod_two_pow]
    congr 1
    cases j with
    | zero => rw [Nat.testBit_zero, Nat.mul_mod_right]; rfl
    | succ j => rw [Nat.testBit_succ, Nat.mul_div_cancel_left _ (by decide), decide_eq_true (by omega), Bool.true_and]; rfl
  unfold kT
  rw [tb_div]
  cases r.testBit (w - 1) with
  | true => rw [if_pos (show true.toNat = 1 from rfl), Nat.testBit_xor, e, Bool.true_and]
  | false => rw [if_neg (show ¬ false.toNat = 1 by decide), e, Bool.false_and, Bool.xor_false]
def rT (q x : Nat) : Nat := if x.testBit 0 = true then x / 2 ^^^ q else x / 2
theorem rT_bit (q x i : Nat) : (rT q x).testBit i = (x.testBit (i + 1) ^^ (x.testBit 0 && q.testBit i)) := by
  unfold rT
  cases x.testBit 0 with
  | true => rw [if_pos rfl, Nat.testBit_xor, Nat.testBit_succ, Bool.true_and]
  | false => rw [if_neg (by decide), Nat.testBit_succ, Bool.false_and, Bool.xor_false]
theorem mir_kT {w p r : Nat} (h1 : 1 ≤ w) : mir (kT w p r) w = rT (mir p w) (mir r w) := by
  apply Nat.eq_of_testBit_eq
  intro i
  rw [mir_bit, rT_bit, mir_bit, mir_bit, mir_bit, kT_bit h1]
  by_cases hi : i < w
  · rw [decide_eq_true hi, Bool.true_and, Bool.true_and, decide_eq_true (show w - 1 - i < w by omega), Bool.true_and, decide_eq_true (show 0 < w by omega), Bool.true_and, Nat.sub_zero, show w - 1 - i - 1 = w - 1 - (i + 1) by omega, show decide (1 ≤ w - 1 - i) = decide (i + 1 < w) from decide_eq_decide.mpr (by omega)]
  · rw [decide_eq_false hi, decide_eq_false (show ¬ i + 1 < w by omega), Bool.false_and, Bool.false_and, Bool.false_and, Bool.and_false]; rfl
theorem mir_top {w r : Nat} {c : Bool} (h1 : 1 ≤ w) : mir (r ^^^ c.toNat * 2 ^ (w - 1)) w = mir r w ^^^ c.toNat := by
  apply Nat.eq_of_testBit_eq
  intro i
  rw [mir_bit, Nat.testBit_xor, Nat.testBit_xor, mir_bit, Nat.testBit_mul_two_pow]
  have hc : ∀ j, c.toNat.testBit j = (decide (j = 0) && c) := by
    intro j
    cases c with
    | false => rw [Bool.and_false]; exact Nat.zero_testBit j
    | true =>
      rw [Bool.and_true]
      cases j with
      | zero => rfl
      | succ j => rw [show true.toNat = 1 from rfl, Nat.testBit_succ, show 1 / 2 = 0 from rfl, Nat.zero_testBit, decide_eq_false (by omega)]
  rw [hc, hc]
  by_cases hi : i < w
  · rw [decide_eq_true hi, Bool.true_and, Bool.true_and]
    congr 1
    by_cases z : i = 0
    · subst z; rw [decide_eq_true (show w - 1 ≤ w - 1 - 0 by omega), Bool.true_and, decide_eq_true (show w - 1 - 0 - (w - 1) = 0 by omega), decide_eq_true (rfl : (0 : Nat) = 0)]
    · rw [decide_eq_false (show ¬ w - 1 ≤ w - 1 - i by omega), decide_eq_false z, Bool.false_and, Bool.false_and]
  · rw [decide_eq_false hi, decide_eq_false (show ¬ i = 0 by omega)]; rfl
theorem mir_fb {w p r : Nat} {c : Bool} (h1 : 1 ≤ w) : mir (fb w p r c) w = rT (mir p w) (mir r w ^^^ c.toNat) := by
  unfold fb
  rw [mir_kT h1, mir_top h1]
def itT (q : Nat) : Nat → Nat → Nat
  | 0, x => x
  | k + 1, x => itT q k (rT q x)
theorem rT_low (q x v : Nat) : rT q (x ^^^ v) = rT q (x ^^^ (v.testBit 0).toNat) ^^^ v / 2 := by
  apply Nat.eq_of_testBit_eq
  intro i
  have hb : ∀ c : Bool, c.toNat.testBit (i + 1) = false ∧ c.toNat.testBit 0 = c := by
    intro c
    cases c
    · exact ⟨Nat.zero_testBit _, rfl⟩
    · exact ⟨by rw [show true.toNat = 1 from rfl, Nat.testBit_succ, show 1 / 2 = 0 from rfl, Nat.zero_testBit], rfl⟩
  rw [Nat.testBit_xor, rT_bit, rT_bit]
  simp only [Nat.testBit_xor, (hb _).1, (hb _).2, Bool.xor_false]
  rw [Nat.testBit_succ v i]
  cases x.testBit (i + 1) <;> cases (v / 2).testBit i <;> cases ((x.testBit 0 ^^ v.testBit 0) && q.testBit i) <;> rfl
theorem mir_f8 {w p v : Nat} (h1 : 1 ≤ w) (hv : v < 256) : ∀ k r, k ≤ 8 → mir (f8 w p (mir v 8) k r) w = itT (mir p w) k (mir r w ^^^ v / 2 ^ (8 - k)) := by
  intro k
  induction k with
  | zero => intro r _; show mir r w = mir r w ^^^ v / 2 ^ 8; rw [Nat.div_eq_of_lt hv, Nat.xor_zero]
  | succ k ih =>
    intro r hk
    show mir (f8 w p (mir v 8) k (fb w p r ((mir v 8).testBit k))) w = itT (mir p w) k (rT (mir p w) (mir r w ^^^ v / 2 ^ (8 - (k + 1))))
    rw [ih _ (by omega), mir_fb h1, mir_bit, decide_eq_true (show k < 8 by omega), Bool.true_and, rT_low _ _ (v / 2 ^ (8 - (k + 1))), Nat.testBit_div_two_pow, Nat.div_div_eq_div_mul, ← Nat.pow_succ, show (8 - (k + 1)).succ = 8 - k by omega, show 0 + (8 - (k + 1)) = 8 - 1 - k by omega]
theorem mir_feed {w p r v : Nat} (h1 : 1 ≤ w) (hv : v < 256) : mir (feed w p 1 r v) w = itT (mir p w) 8 (mir r w ^^^ v) := by
  have := mir_f8 (p := p) h1 hv 8 r (Nat.le_refl 8)
  rw [Nat.sub_self, Nat.pow_zero, Nat.div_one] at this
  exact this
def lP : Nat := 517762881
def lM : Nat := 2197175160
def lE : Nat := 4294967295
theorem lPM : mir lP 32 = lM := by decide +kernel
theorem rT_lt {x : Nat} (h : x < 2 ^ 32) : rT lM x < 2 ^ 32 := by
  unfold rT
  split
  · exact Nat.xor_lt_two_pow (by omega) (by decide)
  · omega
theorem stepI {x : Nat} (hx : x < 4294967296) : (if ¬ (nI x &&& 1) = 0 then (xus (nI x) 1) ^^^ (-2097792136) else xus (nI x) 1) = nI (rT lM x) := by
  rw [k1, nI_and, and1, nI_xus hx (by omega), Nat.pow_one, show (-2097792136 : Int32) = nI lM by decide, nI_xor]
  unfold rT
  rw [show x % 2 = (x.testBit 0).toNat by rw [← tb_div, Nat.pow_zero, Nat.div_one]]
  cases x.testBit 0 with
  | true => rw [if_pos (show ¬ nI true.toNat = 0 by decide), if_pos rfl]
  | false => rw [if_neg (show ¬ ¬ nI false.toNat = 0 from fun h => h rfl), if_neg (by decide)]
theorem moved2 {x : Nat} (hx : x < 4294967296) : q_X2_moved (nI x) = some (nI (itT lM 8 x)) ∧ itT lM 8 x < 4294967296 := by
  have key : ∀ k f x, x < 4294967296 → k ≤ 8 → k < f → (∃ r : Int32 × Int32, q_X2_moved_L4 f (nI x) (nI (8 - k)) = some r ∧ r.1 = nI (itT lM k x)) ∧ itT lM k x < 4294967296 := by
    intro k
    induction k with
    | zero =>
      intro f x hx _ hf
      obtain ⟨f, rfl⟩ : ∃ g, f = g + 1 := ⟨f - 1, by omega⟩
      exact ⟨⟨_, by rw [q_X2_moved_L4, if_pos (show (8 : Int32) ≤ nI (8 - 0) by decide)], rfl⟩, hx⟩
    | succ k ih =>
      intro f x hx hk hf
      obtain ⟨f, rfl⟩ : ∃ g, f = g + 1 := ⟨f - 1, by omega⟩
      have := rT_lt hx
      rw [q_X2_moved_L4, if_neg (show ¬ (8 : Int32) ≤ nI (8 - (k + 1)) from nI_ge (b := 8) (by omega) (by decide)), stepI hx, nI_1, show 8 - (k + 1) + 1 = 8 - k by omega]
      exact ih f _ this (by omega) (by omega)
  obtain ⟨⟨r, r1, r2⟩, r3⟩ := key 8 10000 x hx (Nat.le_refl 8) (by omega)
  have r1 : q_X2_moved_L4 10000 (nI x) 0 = some r := r1
  refine ⟨?_, r3⟩
  unfold q_X2_moved
  rw [r1, Option.bind_some, r2]
/-- one byte more, the library's register mirrored -/
theorem libFeed {r v : Nat} (hv : v < 256) : q_X2_moved (nI (mir r 32) ^^^ nI v) = some (nI (mir (feed 32 lP 1 r v) 32)) := by
  have h1 := mir_lt r 32
  rw [nI_xor, (moved2 (Nat.xor_lt_two_pow (n := 32) h1 (by omega))).1, mir_feed (by decide) hv, lPM]
theorem libBehind {a b : Nat} {B : Nat → Nat} {a2 : Nat → Int32} (hab : a ≤ b) (hb : b ≤ 64) (hB : ∀ k, k < b → B k < 256 ∧ a2 k = nI (B k)) :
    q_X2_registerBehind (nI a) (nI b) a2 = some (nI (mir (reg 32 lP 1 B a lE (b - a)) 32)) := by
  obtain ⟨r, hr, g⟩ := loop_inv (F := fun f (y : Int32 × Int32) => q_X2_registerBehind_L5 (nI b) a2 f y.1 y.2)
    (fun j y => y = (nI (mir (reg 32 lP 1 B a lE j) 32), nI (a + j))) (fun r => r.1 = nI (mir (reg 32 lP 1 B a lE (b - a)) 32)) (b - a)
    (fun f y h => by
      subst h
      exact ⟨_, by show q_X2_registerBehind_L5 _ _ (f + 1) (nI _) (nI _) = _; rw [q_X2_registerBehind_L5, if_pos (nI_le (by omega) (by omega))], rfl⟩)
    (fun f j y hj hy => by
      subst hy
      refine Or.inr ⟨_, ?_, rfl⟩
      obtain ⟨v1, v2⟩ := hB (a + j) (by omega)
      show q_X2_registerBehind_L5 _ _ (f + 1) (nI _) (nI (a + j)) = q_X2_registerBehind_L5 _ _ f (nI (mir (reg 32 lP 1 B a lE (j + 1)) 32)) (nI (a + (j + 1)))
      rw [q_X2_registerBehind_L5, if_neg (nI_ge (by omega) (by omega)), atI (by omega) (by omega), v2, libFeed v1, Option.bind_some, nI_1]
      rfl)
    10000 0 (nI (mir lE 32), nI a) rfl (Nat.zero_le _) (by omega)
  have hr' : q_X2_registerBehind_L5 (nI b) a2 10000 (nI (mir lE 32)) (nI a) = some r := hr
  rw [show nI (mir lE 32) = -1 by decide +kernel] at hr'
  unfold q_X2_registerBehind
  rw [hr', Option.bind_some, g]
theorem libOut (r : Nat) : t_X2_sumOfRegister (nI (mir r 32)) = lN (outS 32 1 lE r) := by
  have h1 := mir_lt r 32
  have h2 : mir r 32 ^^^ lE < 2 ^ 32 := Nat.xor_lt_two_pow h1 (by decide)
  unfold t_X2_sumOfRegister outS
  rw [show (-1 : Int32) = nI lE by decide, nI_xor, nI_mask h2, if_neg (by decide)]
theorem libSum {a b : Nat} {B : Nat → Nat} {a2 : Nat → Int32} (hab : a ≤ b) (hb : b ≤ 64) (hB : ∀ k, k < b → B k < 256 ∧ a2 k = nI (B k)) :
    q_X2_sumOf (nI a) (nI b) a2 = some (lN (outS 32 1 lE (reg 32 lP 1 B a lE (b - a)))) := by
  unfold q_X2_sumOf
  rw [libBehind hab hb hB, Option.bind_some, libOut]

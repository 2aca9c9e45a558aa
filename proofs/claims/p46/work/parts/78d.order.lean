/-! The call order. -/
theorem dg_succ (x n : Nat) : dgI (x % 2 ^ (n + 1)) = if x.testBit n = true then nI n else dgI (x % 2 ^ n) := by
  have h := low_succ x n
  rw [or_add (Nat.mod_lt _ (Nat.two_pow_pos n)), tb_div] at h
  have hl := Nat.mod_lt x (Nat.two_pow_pos n)
  cases c : x.testBit n with
  | true =>
    rw [c, show true.toNat = 1 from rfl, Nat.mul_one] at h
    rw [if_pos rfl, ← h]
    exact log_of (Nat.le_add_right _ _) (by rw [Nat.pow_succ]; omega)
  | false =>
    rw [c, show false.toNat = 0 from rfl, Nat.mul_zero, Nat.zero_add] at h
    rw [if_neg (by decide), h]
theorem smD {x : Nat} (hx : x < 2 ^ 13) : q_X4_smallDegree (nI x) = some (dgI x) := by
  obtain ⟨r, hr, g⟩ := loop_inv (F := fun f (y : Int32 × Int32) => q_X4_smallDegree_L4 (nI x) f y.1 y.2)
    (fun j y => y = (dgI (x % 2 ^ j), nI j)) (fun r => r.1 = dgI x) 13
    (fun f y h => by
      subst h
      refine ⟨_, by show q_X4_smallDegree_L4 _ (f + 1) _ (nI 13) = _; rw [q_X4_smallDegree_L4, if_pos (by decide)], ?_⟩
      show dgI (x % 2 ^ 13) = dgI x
      rw [Nat.mod_eq_of_lt hx])
    (fun f j y hj h => by
      subst h
      refine Or.inr ⟨_, ?_, rfl⟩
      show q_X4_smallDegree_L4 _ (f + 1) (dgI (x % 2 ^ j)) (nI j) = q_X4_smallDegree_L4 _ f (dgI (x % 2 ^ (j + 1))) (nI (j + 1))
      rw [q_X4_smallDegree_L4, if_neg (show ¬ (12 : Int32) < nI j by rw [ltI, nI_toInt (by omega), show (12 : Int32).toInt = 12 from rfl]; omega), nI_xus (by omega) (by omega), k1, nI_and, and1, tb_div, dg_succ, nI_add]
      cases x.testBit j with
      | true => rw [if_neg (show ¬ nI true.toNat = 0 by decide), if_pos rfl]
      | false => rw [if_pos (show nI false.toNat = 0 from rfl), if_neg (by decide)])
    10000 0 (dgI (x % 2 ^ 0), nI 0) rfl (Nat.zero_le _) (by omega)
  have e : dgI (x % 2 ^ 0) = -1 := by rw [Nat.pow_zero, Nat.mod_one]; rfl
  rw [e] at hr
  have hr' : q_X4_smallDegree_L4 (nI x) 10000 (-1) 0 = some r := hr
  unfold q_X4_smallDegree
  rw [hr', Option.bind_some, g]
theorem kT_eq {d p r : Nat} (h1 : 1 ≤ d) (hp : p < 2 ^ d) (hr : r < 2 ^ d) : (if (2 * r).testBit d = true then 2 * r ^^^ (2 ^ d + p) else 2 * r) = kT d p r := by
  have := hstep (w := d) (p := p) (r := r) (A := 2 * r) (k := 0) (c := false) h1 hp hr (by rw [Nat.zero_add, Nat.pow_one]; omega) (by rw [Nat.testBit_zero, Nat.mul_mod_right]; rfl)
  rw [Nat.zero_add, Nat.pow_zero, Nat.div_one, Nat.mul_one, show false.toNat = 0 from rfl, Nat.xor_zero] at this
  exact this
theorem dg_lt {a d : Nat} (ha : a < 2 ^ 96) (hd : d ≤ 95) : dgI a < nI d ↔ a < 2 ^ d := by
  rcases dg_cases ha with ⟨rfl, e⟩ | ⟨h0, h95, e, hl, hg⟩
  · rw [e]
    exact ⟨fun _ => Nat.two_pow_pos d, fun _ => by rw [ltI, nI_toInt (by omega), show (-1 : Int32).toInt = -1 from rfl]; omega⟩
  · rw [e, ltI, nI_toInt (by omega), nI_toInt (by omega)]
    constructor
    · intro h
      exact Nat.lt_of_lt_of_le hl (Nat.pow_le_pow_right (by decide) (by omega))
    · intro h
      have := (Nat.log2_lt h0).mpr h
      omega
theorem php : ∀ n (f : Nat → Nat), (∀ i, i ≤ n → f i < n) → ∃ i j, i < j ∧ j ≤ n ∧ f i = f j := by
  intro n
  induction n with
  | zero => intro f h; exact absurd (h 0 (Nat.le_refl 0)) (Nat.not_lt_zero _)
  | succ n ih =>
    intro f h
    by_cases e : ∃ i, i ≤ n ∧ f i = f (n + 1)
    · obtain ⟨i, h1, h2⟩ := e
      exact ⟨i, n + 1, by omega, Nat.le_refl _, h2⟩
    · have hc := h (n + 1) (Nat.le_refl _)
      have ne : ∀ i, i ≤ n → f i ≠ f (n + 1) := fun i hi hf => e ⟨i, hi, hf⟩
      obtain ⟨i, j, h1, h2, h3⟩ := ih (fun i => if f i = n then f (n + 1) else f i) (fun i hi => by
        have := h i (by omega)
        have := ne i hi
        show (if f i = n then f (n + 1) else f i) < n
        split <;> omega)
      refine ⟨i, j, h1, by omega, ?_⟩
      have n1 := ne i (by omega)
      have n2 := ne j h2
      have h3 : (if f i = n then f (n + 1) else f i) = (if f j = n then f (n + 1) else f j) := h3
      by_cases a : f i = n
      · by_cases b : f j = n
        · rw [a, b]
        · rw [if_pos a, if_neg b] at h3; exact absurd h3.symm n2
      · by_cases b : f j = n
        · rw [if_neg a, if_pos b] at h3; exact absurd h3 n1
        · rw [if_neg a, if_neg b] at h3; exact h3
theorem kT_ker {w p x : Nat} (h1 : 1 ≤ w) (ho : p % 2 = 1) (hx : x < 2 ^ w) (h : kT w p x = 0) : x = 0 := by
  have hb := kT_bit (w := w) (p := p) (r := x) (j := 0) h1
  rw [h, Nat.zero_testBit, decide_eq_false (show ¬ 1 ≤ 0 by decide), Bool.false_and, Bool.and_false, Bool.false_xor] at hb
  have hp0 : p.testBit 0 = true := by rw [Nat.testBit_zero, ho]; rfl
  rw [hp0, Bool.and_true] at hb
  unfold kT at h
  rw [tb_div, ← hb, if_neg (show ¬ false.toNat = 1 by decide)] at h
  have hl : x < 2 ^ (w - 1) := by
    obtain ⟨v, rfl⟩ : ∃ v, w = v + 1 := ⟨w - 1, by omega⟩
    exact lt_of_top (n := v + 1 - 1) hx (by rw [← hb]; decide)
  rw [Nat.mod_eq_of_lt] at h
  · omega
  · obtain ⟨v, rfl⟩ : ∃ v, w = v + 1 := ⟨w - 1, by omega⟩
    rw [show v + 1 - 1 = v by omega] at hl
    rw [Nat.pow_succ]; omega
theorem iT_ker {w p x : Nat} (h1 : 1 ≤ w) (hp : p < 2 ^ w) (ho : p % 2 = 1) (hx : x < 2 ^ w) : ∀ m, iT w p m x = 0 → x = 0 := by
  intro m
  induction m with
  | zero => intro h; exact h
  | succ m ih => intro h; exact ih (kT_ker h1 ho (iT_lt hp hx m) h)
theorem order_ex {d p : Nat} (h1 : 1 ≤ d) (hp : p < 2 ^ d) (ho : p % 2 = 1) : ∃ N, 1 ≤ N ∧ N ≤ 2 ^ d - 1 ∧ iT d p N 1 = 1 := by
  have h1d : 1 < 2 ^ d := Nat.one_lt_two_pow (by omega)
  have pos : ∀ i, 1 ≤ iT d p i 1 := by
    intro i
    have : iT d p i 1 ≠ 0 := fun h => absurd (iT_ker h1 hp ho h1d i h) (by decide)
    omega
  obtain ⟨i, j, a, b, c⟩ := php (2 ^ d - 1) (fun i => iT d p i 1 - 1) (fun i _ => by
    have := iT_lt (w := d) (p := p) hp h1d i
    have := pos i
    show iT d p i 1 - 1 < _
    omega)
  have c : iT d p i 1 - 1 = iT d p j 1 - 1 := c
  have c1 : iT d p i 1 = iT d p j 1 := by have := pos i; have := pos j; omega
  refine ⟨j - i, by omega, by omega, ?_⟩
  have e : iT d p j 1 = iT d p i (iT d p (j - i) 1) := by rw [← iT_add, show i + (j - i) = j by omega]
  have z : iT d p i (1 ^^^ iT d p (j - i) 1) = 0 := by rw [iT_xor h1, ← e, c1, Nat.xor_self]
  have z' := iT_ker h1 hp ho (Nat.xor_lt_two_pow h1d (iT_lt hp h1d _)) i z
  have := Nat.xor_assoc 1 1 (iT d p (j - i) 1)
  rw [z', Nat.xor_self, Nat.zero_xor, Nat.xor_zero] at this
  exact this
theorem smallT {s P : Nat} {a10 a11 : Nat → Int64} {x y : Int64} (hs : s < 8) (hP : P < 2 ^ 96) (b1 : a10 s = pL P) (b2 : a11 s = pH P) (h0 : P ≠ 0) (h1 : 1 ≤ P.log2) (h2 : P.log2 ≤ 12) : q_X11_smallNumberOn (nI s) a10 a11 x y = some (.inr (nI P), (pL P, pH P)) := by
  have e : dgI P = nI P.log2 := if_neg h0
  have hp := partC (t := 0) hP (by omega)
  rw [Nat.mul_zero, Nat.pow_zero, Nat.div_one] at hp
  have hp : t_X4_part 0 (pL P) (pH P) = nI P := hp
  unfold q_X11_smallNumberOn
  rw [rsT hs]
  simp only [xbnd, takeS hs, Option.bind_some, b1, b2, degC hP, e]
  rw [if_neg (show ¬ nI P.log2 < 1 by rw [ltI, nI_toInt (by omega), show (1 : Int32).toInt = 1 from rfl]; omega), if_pos (show nI P.log2 ≤ 12 from nI_le (b := 12) h2 (by decide)), hp]
theorem smallB {p : Int32} {a10 a11 : Nat → Int64} {x y : Int64} (h : p.toInt < 0 ∨ ((8 : Nat) : Int) ≤ p.toInt) : q_X11_smallNumberOn p a10 a11 x y = some (.inl 2, (x, y)) := by
  unfold q_X11_smallNumberOn
  rw [rsF h]; rfl

/-! The call order. -/
theorem dg_succ (x n : Nat) : dgI (x % 2 ^ (n + 1)) = if x.testBit n = true then nI n else dgI (x % 2 ^ n) := by
  have h := low_succ x n
  rw [or_add (Nat.mod_lt _ (Nat.two_pow_pos n)), tb_div] at h
  have hl := Nat.mod_lt x (Nat.two_pow_pos n)
  cases c : x.testBit n with
  | true =>
    rw [c, show true.toNat = 1 from rfl, Nat.mul_one] at h
    rw [if_pos rfl, ← h]
    exact log_of (Nat.le_add_right _ _) (by rw [Nat.pow_succ]; omega)
  | false =>
    rw [c, show false.toNat = 0 from rfl, Nat.mul_zero, Nat.zero_add] at h
    rw [if_neg (by decide), h]
theorem hiM {x : Nat} (hx : x < 2 ^ 14) : q_X12_highest (nI x) = some (dgI x) := by
  obtain ⟨r, hr, g⟩ := loop_inv (F := fun f (y : Int32 × Int32) => q_X12_highest_L4 (nI x) f y.1 y.2)
    (fun j y => y = (dgI (x % 2 ^ j), nI j)) (fun r => r.1 = dgI x) 14
    (fun f y h => by
      subst h
      refine ⟨_, by show q_X12_highest_L4 _ (f + 1) _ (nI 14) = _; rw [q_X12_highest_L4, if_pos (by decide)], ?_⟩
      show dgI (x % 2 ^ 14) = dgI x
      rw [Nat.mod_eq_of_lt hx])
    (fun f j y hj h => by
      subst h
      refine Or.inr ⟨_, ?_, rfl⟩
      show q_X12_highest_L4 _ (f + 1) (dgI (x % 2 ^ j)) (nI j) = q_X12_highest_L4 _ f (dgI (x % 2 ^ (j + 1))) (nI (j + 1))
      rw [q_X12_highest_L4, if_neg (show ¬ (14 : Int32) ≤ nI j from nI_ge (b := 14) hj (by decide)), nI_xus (by omega) (by omega), k1, nI_and, and1, tb_div, dg_succ, nI_add]
      cases x.testBit j with
      | true => rw [if_neg (show ¬ ¬ nI true.toNat = nI 1 from fun h => h rfl), if_pos rfl]
      | false => rw [if_pos (show ¬ nI false.toNat = nI 1 by decide), if_neg (by decide)])
    10000 0 (dgI (x % 2 ^ 0), nI 0) rfl (Nat.zero_le _) (by omega)
  have e : dgI (x % 2 ^ 0) = -1 := by rw [Nat.pow_zero, Nat.mod_one]; rfl
  rw [e] at hr
  have hr' : q_X12_highest_L4 (nI x) 10000 (-1) 0 = some r := hr
  unfold q_X12_highest
  rw [hr', Option.bind_some, g]
theorem smD {x : Nat} (hx : x < 2 ^ 13) : q_X4_smallDegree (nI x) = some (dgI x) := by
  obtain ⟨r, hr, g⟩ := loop_inv (F := fun f (y : Int32 × Int32) => q_X4_smallDegree_L4 (nI x) f y.1 y.2)
    (fun j y => y = (dgI (x % 2 ^ j), nI j)) (fun r => r.1 = dgI x) 13
    (fun f y h => by
      subst h
      refine ⟨_, by show q_X4_smallDegree_L4 _ (f + 1) _ (nI 13) = _; rw [q_X4_smallDegree_L4, if_pos (by decide)], ?_⟩
      show dgI (x % 2 ^ 13) = dgI x
      rw [Nat.mod_eq_of_lt hx])
    (fun f j y hj h => by
      subst h
      refine Or.inr ⟨_, ?_, rfl⟩
      show q_X4_smallDegree_L4 _ (f + 1) (dgI (x % 2 ^ j)) (nI j) = q_X4_smallDegree_L4 _ f (dgI (x % 2 ^ (j + 1))) (nI (j + 1))
      rw [q_X4_smallDegree_L4, if_neg (show ¬ (12 : Int32) < nI j by rw [ltI, nI_toInt (by omega), show (12 : Int32).toInt = 12 from rfl]; omega), nI_xus (by omega) (by omega), k1, nI_and, and1, tb_div, dg_succ, nI_add]
      cases x.testBit j with
      | true => rw [if_neg (show ¬ nI true.toNat = 0 by decide), if_pos rfl]
      | false => rw [if_pos (show nI false.toNat = 0 from rfl), if_neg (by decide)])
    10000 0 (dgI (x % 2 ^ 0), nI 0) rfl (Nat.zero_le _) (by omega)
  have e : dgI (x % 2 ^ 0) = -1 := by rw [Nat.pow_zero, Nat.mod_one]; rfl
  rw [e] at hr
  have hr' : q_X4_smallDegree_L4 (nI x) 10000 (-1) 0 = some r := hr
  unfold q_X4_smallDegree
  rw [hr', Option.bind_some, g]
theorem kT_eq {d p r : Nat} (h1 : 1 ≤ d) (hp : p < 2 ^ d) (hr : r < 2 ^ d) : (if (2 * r).testBit d = true then 2 * r ^^^ (2 ^ d + p) else 2 * r) = kT d p r := by
  have := hstep (w := d) (p := p) (r := r) (A := 2 * r) (k := 0) (c := false) h1 hp hr (by rw [Nat.zero_add, Nat.pow_one]; omega) (by rw [Nat.testBit_zero, Nat.mul_mod_right]; rfl)
  rw [Nat.zero_add, Nat.pow_zero, Nat.div_one, Nat.mul_one, show false.toNat = 0 from rfl, Nat.xor_zero] at this
  exact this
theorem dg_lt {a d : Nat} (ha : a < 2 ^ 96) (hd : d ≤ 95) : dgI a < nI d ↔ a < 2 ^ d := by
  rcases dg_cases ha with ⟨rfl, e⟩ | ⟨h0, h95, e, hl, hg⟩
  · rw [e]
    exact ⟨fun _ => Nat.two_pow_pos d, fun _ => by rw [ltI, nI_toInt (by omega), show (-1 : Int32).toInt = -1 from rfl]; omega⟩
  · rw [e, ltI, nI_toInt (by omega), nI_toInt (by omega)]
    constructor
    · intro h
      exact Nat.lt_of_lt_of_le hl (Nat.pow_le_pow_right (by decide) (by omega))
    · intro h
      have := (Nat.log2_lt h0).mpr h
      omega
theorem restM {d p r : Nat} (h1 : 1 ≤ d) (hd : d ≤ 12) (hp : p < 2 ^ d) (hr : r < 2 ^ d) : q_X12_restBy (nI (2 * r)) (nI (2 ^ d + p)) = some (nI (kT d p r)) := by
  have h12 : 2 ^ d ≤ 2 ^ 12 := Nat.pow_le_pow_right (by decide) hd
  have eP : dgI (2 ^ d + p) = nI d := log_of (Nat.le_add_right _ _) (by rw [Nat.pow_succ]; omega)
  have hk := kT_lt (w := d) (r := r) hp
  have stop : ∀ f a, a < 2 ^ d → q_X12_restBy_L2 (nI (2 ^ d + p)) (f + 1) (nI a) = some (nI a) := by
    intro f a ha
    rw [q_X12_restBy_L2, hiM (by omega), Option.bind_some, hiM (by omega), Option.bind_some, eP, if_pos ((dg_lt (by omega) (by omega)).mpr ha)]
  unfold q_X12_restBy
  have e := kT_eq h1 hp hr
  by_cases c : 2 * r < 2 ^ d
  · rw [Nat.testBit_lt_two_pow c, if_neg (by decide)] at e
    rw [stop 9999 _ c, Option.bind_some, e]
  · have hb := top_bit (Q := 2 * r) (b := d) (by omega) (by rw [Nat.pow_succ]; omega)
    rw [hb, if_pos rfl] at e
    have eR : dgI (2 * r) = nI d := log_of (by omega) (by rw [Nat.pow_succ]; omega)
    rw [q_X12_restBy_L2, hiM (by omega), Option.bind_some, hiM (by omega), Option.bind_some, eP, eR, if_neg (show ¬ nI d < nI d by rw [ltI]; omega), Option.bind_some, Option.bind_some, nI_sub (Nat.le_refl d), Nat.sub_self, nI_shl _ (by omega), nI_xor, Nat.pow_zero, Nat.mul_one, e, stop 9998 _ hk, Option.bind_some]
theorem php : ∀ n (f : Nat → Nat), (∀ i, i ≤ n → f i < n) → ∃ i j, i < j ∧ j ≤ n ∧ f i = f j := by
  intro n
  induction n with
  | zero => intro f h; exact absurd (h 0 (Nat.le_refl 0)) (Nat.not_lt_zero _)
  | succ n ih =>
    intro f h
    by_cases e : ∃ i, i ≤ n ∧ f i = f (n + 1)
    · obtain ⟨i, h1, h2⟩ := e
      exact ⟨i, n + 1, by omega, Nat.le_refl _, h2⟩
    · have hc := h (n + 1) (Nat.le_refl _)
      have ne : ∀ i, i ≤ n → f i ≠ f (n + 1) := fun i hi hf => e ⟨i, hi, hf⟩
      obtain ⟨i, j, h1, h2, h3⟩ := ih (fun i => if f i = n then f (n + 1) else f i) (fun i hi => by
        have := h i (by omega)
        have := ne i hi
        show (if f i = n then f (n + 1) else f i) < n
        split <;> omega)
      refine ⟨i, j, h1, by omega, ?_⟩
      have n1 := ne i (by omega)
      have n2 := ne j h2
      have h3 : (if f i = n then f (n + 1) else f i) = (if f j = n then f (n + 1) else f j) := h3
      by_cases a : f i = n
      · by_cases b : f j = n
        · rw [a, b]
        · rw [if_pos a, if_neg b] at h3; exact absurd h3.symm n2
      · by_cases b : f j = n
        · rw [if_neg a, if_pos b] at h3; exact absurd h3 n1
        · rw [if_neg a, if_neg b] at h3; exact h3
theorem kT_ker {w p x : Nat} (h1 : 1 ≤ w) (ho : p % 2 = 1) (hx : x < 2 ^ w) (h : kT w p x = 0) : x = 0 := by
  have hb := kT_bit (w := w) (p := p) (r := x) (j := 0) h1
  rw [h, Nat.zero_testBit, decide_eq_false (show ¬ 1 ≤ 0 by decide), Bool.false_and, Bool.and_false, Bool.false_xor] at hb
  have hp0 : p.testBit 0 = true := by rw [Nat.testBit_zero, ho]; rfl
  rw [hp0, Bool.and_true] at hb
  unfold kT at h
  rw [tb_div, ← hb, if_neg (show ¬ false.toNat = 1 by decide)] at h
  have hl : x < 2 ^ (w - 1) := by
    obtain ⟨v, rfl⟩ : ∃ v, w = v + 1 := ⟨w - 1, by omega⟩
    exact lt_of_top (n := v + 1 - 1) hx (by rw [← hb]; decide)
  rw [Nat.mod_eq_of_lt] at h
  · omega
  · obtain ⟨v, rfl⟩ : ∃ v, w = v + 1 := ⟨w - 1, by omega⟩
    rw [show v + 1 - 1 = v by omega] at hl
    rw [Nat.pow_succ]; omega
theorem iT_ker {w p x : Nat} (h1 : 1 ≤ w) (hp : p < 2 ^ w) (ho : p % 2 = 1) (hx : x < 2 ^ w) : ∀ m, iT w p m x = 0 → x = 0 := by
  intro m
  induction m with
  | zero => intro h; exact h
  | succ m ih => intro h; exact ih (kT_ker h1 ho (iT_lt hp hx m) h)
theorem order_ex {d p : Nat} (h1 : 1 ≤ d) (hp : p < 2 ^ d) (ho : p % 2 = 1) : ∃ N, 1 ≤ N ∧ N ≤ 2 ^ d - 1 ∧ iT d p N 1 = 1 := by
  have h1d : 1 < 2 ^ d := Nat.one_lt_two_pow (by omega)
  have pos : ∀ i, 1 ≤ iT d p i 1 := by
    intro i
    have : iT d p i 1 ≠ 0 := fun h => absurd (iT_ker h1 hp ho h1d i h) (by decide)
    omega
  obtain ⟨i, j, a, b, c⟩ := php (2 ^ d - 1) (fun i => iT d p i 1 - 1) (fun i _ => by
    have := iT_lt (w := d) (p := p) hp h1d i
    have := pos i
    show iT d p i 1 - 1 < _
    omega)
  have c : iT d p i 1 - 1 = iT d p j 1 - 1 := c
  have c1 : iT d p i 1 = iT d p j 1 := by have := pos i; have := pos j; omega
  refine ⟨j - i, by omega, by omega, ?_⟩
  have e : iT d p j 1 = iT d p i (iT d p (j - i) 1) := by rw [← iT_add, show i + (j - i) = j by omega]
  have z : iT d p i (1 ^^^ iT d p (j - i) 1) = 0 := by rw [iT_xor h1, ← e, c1, Nat.xor_self]
  have z' := iT_ker h1 hp ho (Nat.xor_lt_two_pow h1d (iT_lt hp h1d _)) i z
  have := Nat.xor_assoc 1 1 (iT d p (j - i) 1)
  rw [z', Nat.xor_self, Nat.zero_xor, Nat.xor_zero] at this
  exact this
theorem numM {s P : Nat} {a53 : Nat → Int32} (hs : s < 8) (hP : P < 2 ^ 13) (ha : ∀ k, k < 96 → a53 (96 * s + k) = nI (P / 2 ^ k % 2)) : q_X12_numberOf (nI s) a53 = some (nI P) := by
  obtain ⟨r, hr, g⟩ := loop_inv (F := fun f (y : Int32 × Int32) => q_X12_numberOf_L4 (nI s) a53 f y.1 y.2)
    (fun j y => y = (nI (P % 2 ^ j), nI j)) (fun r => r.1 = nI P) 13
    (fun f y h => by
      subst h
      refine ⟨_, by show q_X12_numberOf_L4 _ _ (f + 1) _ (nI 13) = _; rw [q_X12_numberOf_L4, if_pos (by decide)], ?_⟩
      show nI (P % 2 ^ 13) = nI P
      rw [Nat.mod_eq_of_lt hP])
    (fun f j y hj h => by
      subst h
      refine Or.inr ⟨_, ?_, rfl⟩
      show q_X12_numberOf_L4 _ _ (f + 1) (nI (P % 2 ^ j)) (nI j) = q_X12_numberOf_L4 _ _ f (nI (P % 2 ^ (j + 1))) (nI (j + 1))
      rw [q_X12_numberOf_L4, if_neg (show ¬ (13 : Int32) ≤ nI j from nI_ge (b := 13) hj (by decide)), k96, nI_mul, nI_add, if_pos (xinI (by omega) (by omega)), nI_clamp (by omega), ha j (by omega), nI_shl _ (by omega), nI_or, low_succ, nI_1])
    10000 0 (nI (P % 2 ^ 0), nI 0) rfl (Nat.zero_le _) (by omega)
  rw [Nat.pow_zero, Nat.mod_one] at hr
  have hr' : q_X12_numberOf_L4 (nI s) a53 10000 0 0 = some r := hr
  unfold q_X12_numberOf
  rw [hr', Option.bind_some, g]
theorem orderBoth {d p : Nat} (h1 : 1 ≤ d) (hd : d ≤ 12) (hp : p < 2 ^ d) (ho : p % 2 = 1) : ∃ R, R < 2147483648 ∧ q_X4_orderOf (nI (2 ^ d + p)) = some (nI R) ∧ ∃ x : Int32 × Int32, q_X12_order_L62 (nI (2 ^ d + p)) 10000 1 (nI (kT d p 1)) = some x ∧ x.1 = nI R := by
  have h12 : 2 ^ d ≤ 2 ^ 12 := Nat.pow_le_pow_right (by decide) hd
  have h1d : 1 < 2 ^ d := Nat.one_lt_two_pow (by omega)
  obtain ⟨N, n1, n2, n3⟩ := order_ex h1 hp ho
  have eP : dgI (2 ^ d + p) = nI d := log_of (Nat.le_add_right _ _) (by rw [Nat.pow_succ]; omega)
  have key : ∀ t i f, i + t = N → 1 ≤ i → t < f → ∃ R, R < 2147483648 ∧ q_X4_orderOf_L9 (nI (2 ^ d + p)) (nI d) f (nI (iT d p (i - 1) 1)) (nI i) = some (.inr (nI R)) ∧ ∃ x : Int32 × Int32, q_X12_order_L62 (nI (2 ^ d + p)) f (nI i) (nI (iT d p i 1)) = some x ∧ x.1 = nI R := by
    intro t
    induction t with
    | zero =>
      intro i f hi h1i hf
      obtain ⟨f, rfl⟩ : ∃ g, f = g + 1 := ⟨f - 1, by omega⟩
      have hl := iT_lt (w := d) (p := p) hp h1d (i - 1)
      have e1 : kT d p (iT d p (i - 1) 1) = iT d p i 1 := by show iT d p (i - 1 + 1) 1 = _; rw [show i - 1 + 1 = i by omega]
      have eN : iT d p i 1 = 1 := by rw [show i = N by omega]; exact n3
      have e2 := kT_eq h1 hp hl
      refine ⟨i, by omega, ?_, ?_⟩
      · have e3 : (if (xus (nI (iT d p (i - 1) 1) <<< ((1 : Int32) &&& 31)) (nI d)) &&& 1 = 0 then nI (iT d p (i - 1) 1) <<< ((1 : Int32) &&& 31) else (nI (iT d p (i - 1) 1) <<< ((1 : Int32) &&& 31)) ^^^ nI (2 ^ d + p)) = nI (iT d p i 1) := by
          rw [k1, nI_shl _ (k := 1) (by omega), Nat.pow_one, Nat.mul_comm _ 2, nI_xus (by omega) (by omega), nI_and, and1, tb_div, nI_xor, ← e1, ← e2]
          cases (2 * iT d p (i - 1) 1).testBit d with
          | true => rw [if_neg (show ¬ nI true.toNat = 0 by decide), if_pos rfl]
          | false => rw [if_pos (show nI false.toNat = 0 from rfl), if_neg (by decide)]
        rw [q_X4_orderOf_L9, if_neg (show ¬ (4096 : Int32) < nI i by rw [ltI, nI_toInt (by omega), show (4096 : Int32).toInt = 4096 from rfl]; omega), e3, eN, if_neg (show ¬ ¬ nI 1 = 1 from fun h => h rfl)]
      · rw [q_X12_order_L62, eN, if_pos (show nI 1 = 1 from rfl)]
        exact ⟨_, rfl, rfl⟩
    | succ t ih =>
      intro i f hi h1i hf
      obtain ⟨f, rfl⟩ : ∃ g, f = g + 1 := ⟨f - 1, by omega⟩
      have hl := iT_lt (w := d) (p := p) hp h1d (i - 1)
      have hli := iT_lt (w := d) (p := p) hp h1d i
      have e1 : kT d p (iT d p (i - 1) 1) = iT d p i 1 := by show iT d p (i - 1 + 1) 1 = _; rw [show i - 1 + 1 = i by omega]
      have e2 := kT_eq h1 hp hl
      have e3 : (if (xus (nI (iT d p (i - 1) 1) <<< ((1 : Int32) &&& 31)) (nI d)) &&& 1 = 0 then nI (iT d p (i - 1) 1) <<< ((1 : Int32) &&& 31) else (nI (iT d p (i - 1) 1) <<< ((1 : Int32) &&& 31)) ^^^ nI (2 ^ d + p)) = nI (iT d p i 1) := by
        rw [k1, nI_shl _ (k := 1) (by omega), Nat.pow_one, Nat.mul_comm _ 2, nI_xus (by omega) (by omega), nI_and, and1, tb_div, nI_xor, ← e1, ← e2]
        cases (2 * iT d p (i - 1) 1).testBit d with
        | true => rw [if_neg (show ¬ nI true.toNat = 0 by decide), if_pos rfl]
        | false => rw [if_pos (show nI false.toNat = 0 from rfl), if_neg (by decide)]
      by_cases c : iT d p i 1 = 1
      · refine ⟨i, by omega, ?_, ?_⟩
        · rw [q_X4_orderOf_L9, if_neg (show ¬ (4096 : Int32) < nI i by rw [ltI, nI_toInt (by omega), show (4096 : Int32).toInt = 4096 from rfl]; omega), e3, c, if_neg (show ¬ ¬ nI 1 = 1 from fun h => h rfl)]
        · rw [q_X12_order_L62, c, if_pos (show nI 1 = 1 from rfl)]
          exact ⟨_, rfl, rfl⟩
      · have hne : ¬ nI (iT d p i 1) = 1 := ne_of_nI (b := 1) c (by omega) (by decide)
        obtain ⟨R, r1, r2, r3⟩ := ih (i + 1) f (by omega) (by omega) (by omega)
        rw [Nat.add_sub_cancel] at r2
        refine ⟨R, r1, ?_, ?_⟩
        · rw [q_X4_orderOf_L9, if_neg (show ¬ (4096 : Int32) < nI i by rw [ltI, nI_toInt (by omega), show (4096 : Int32).toInt = 4096 from rfl]; omega), e3, if_pos hne, nI_1]
          exact r2
        · rw [q_X12_order_L62, if_neg hne, k1, nI_shl _ (k := 1) (by omega), Nat.pow_one, Nat.mul_comm _ 2, restM h1 hd hp hli, Option.bind_some, nI_add]
          exact r3
  obtain ⟨R, r1, r2, r3⟩ := key (N - 1) 1 10000 (by omega) (Nat.le_refl 1) (by omega)
  refine ⟨R, r1, ?_, r3⟩
  have r2 : q_X4_orderOf_L9 (nI (2 ^ d + p)) (nI d) 10000 1 1 = some (.inr (nI R)) := r2
  unfold q_X4_orderOf
  rw [smD (by omega), Option.bind_some, eP, r2]
  rfl
theorem smallT {s P : Nat} {a10 a11 : Nat → Int64} {x y : Int64} (hs : s < 8) (hP : P < 2 ^ 96) (b1 : a10 s = pL P) (b2 : a11 s = pH P) (h0 : P ≠ 0) (h1 : 1 ≤ P.log2) (h2 : P.log2 ≤ 12) : q_X11_smallNumberOn (nI s) a10 a11 x y = some (.inr (nI P), (pL P, pH P)) := by
  have e : dgI P = nI P.log2 := if_neg h0
  have hp := partC (t := 0) hP (by omega)
  rw [Nat.mul_zero, Nat.pow_zero, Nat.div_one] at hp
  have hp : t_X4_part 0 (pL P) (pH P) = nI P := hp
  unfold q_X11_smallNumberOn
  rw [rsT hs]
  simp only [xbnd, takeS hs, Option.bind_some, b1, b2, degC hP, e]
  rw [if_neg (show ¬ nI P.log2 < 1 by rw [ltI, nI_toInt (by omega), show (1 : Int32).toInt = 1 from rfl]; omega), if_pos (show nI P.log2 ≤ 12 from nI_le (b := 12) h2 (by decide)), hp]
theorem smallF {s P : Nat} {a10 a11 : Nat → Int64} {x y : Int64} (hs : s < 8) (hP : P < 2 ^ 96) (b1 : a10 s = pL P) (b2 : a11 s = pH P) (h : ¬ (P ≠ 0 ∧ 1 ≤ P.log2 ∧ P.log2 ≤ 12)) : q_X11_smallNumberOn (nI s) a10 a11 x y = some (.inl 5, (pL P, pH P)) ∧ t_X12_in (dgI P).toInt64 1 12 = 0 := by
  have key : (dgI P).toInt < 1 ∨ 12 < (dgI P).toInt := by
    rcases dg_cases hP with ⟨rfl, e⟩ | ⟨h0, h95, e, -, -⟩
    · rw [e]; left; decide
    · rw [e, nI_toInt (by omega)]; omega
  refine ⟨?_, in_F (by rw [tl]; show _ < (1 : Int) ∨ (12 : Int) < _; exact key)⟩
  unfold q_X11_smallNumberOn
  rw [rsT hs]
  simp only [xbnd, takeS hs, Option.bind_some, b1, b2, degC hP]
  by_cases c : dgI P < 1
  · rw [if_pos c]
  · rw [if_neg c]
    rw [ltI, show (1 : Int32).toInt = 1 from rfl] at c
    rw [if_neg (by rw [leI, show (12 : Int32).toInt = 12 from rfl]; omega)]
theorem smallB {p : Int32} {a10 a11 : Nat → Int64} {x y : Int64} (h : p.toInt < 0 ∨ ((8 : Nat) : Int) ≤ p.toInt) : q_X11_smallNumberOn p a10 a11 x y = some (.inl 2, (x, y)) := by
  unfold q_X11_smallNumberOn
  rw [rsF h]; rfl
theorem M_21 : MS_21 := by
  intro S l4 a10 a11 c12_0 c12_1 a66 a53 c1_1 a2 c48_17 a49 c3_1 c3_2 c4_0 a5 a6 c48_20 a52 c8_0 c8_1 c8_2 c8_3 c8_4 c8_5 c48_24 c48_25 c48_26 c48_27 c48_28 c7_0 c7_1 c7_2 c7_3 c7_4 c7_5 c17_1 a18 c48_21 a57 c23_4 c24_0 a25 a26 c48_22 a58 a22 x1 x2 x3 x4 x5 hB hP hK h7 hS hD hW hC
  unfold q_case21
  generalize S.2 (l4 + (1 : Int32)).toNatClampNeg = p1
  rcases cls p1 (n := 8) (by omega) with ⟨s, hs, rfl⟩ | hF
  · obtain ⟨P, hP, b1, b2, b3⟩ := hS s hs
    have b1 : a10 s = pL P := b1
    have b2 : a11 s = pH P := b2
    by_cases c : P ≠ 0 ∧ 1 ≤ P.log2 ∧ P.log2 ≤ 12
    · obtain ⟨h0, g1, g2⟩ := c
      have e : dgI P = nI P.log2 := if_neg h0
      have hl : P < 2 ^ (P.log2 + 1) := Nat.lt_log2_self
      have hg : 2 ^ P.log2 ≤ P := Nat.log2_self_le h0
      have h13 : P < 2 ^ 13 := Nat.lt_of_lt_of_le hl (Nat.pow_le_pow_right (by decide) (by omega))
      have ei : t_X12_in (dgI P).toInt64 1 12 = 1 := by
        rw [e]
        exact in_T (by rw [tl, nI_toInt (by omega)]; show (1 : Int) ≤ _; omega) (by rw [tl, nI_toInt (by omega)]; show _ ≤ (12 : Int); omega)
      have em := smallT (x := c12_0) (y := c12_1) hs hP b1 b2 h0 g1 g2
      by_cases o : P % 2 = 1
      · have eP : P = 2 ^ P.log2 + (P - 2 ^ P.log2) := by omega
        have hp : P - 2 ^ P.log2 < 2 ^ P.log2 := by rw [Nat.pow_succ] at hl; omega
        have ho : (P - 2 ^ P.log2) % 2 = 1 := by
          obtain ⟨v, hv⟩ : ∃ v, P.log2 = v + 1 := ⟨P.log2 - 1, by omega⟩
          rw [hv, Nat.pow_succ] at hg ⊢
          omega
        obtain ⟨R, r1, r2, x, r3, r4⟩ := orderBoth g1 g2 hp ho
        have r5 := restM (d := P.log2) (p := P - 2 ^ P.log2) (r := 1) g1 g2 hp (Nat.one_lt_two_pow (by omega))
        rw [← eP] at r2 r3 r5
        have r5 : q_X12_restBy 2 (nI P) = _ := r5
        have e1 : q_X11_order (nI s) a10 a11 c12_0 c12_1 = some (.inr (nI R), (pL P, pH P)) := by
          unfold q_X11_order
          rw [em]
          simp only [xbnd]
          rw [if_pos (fun h => (oddT (by omega)).mp h o), r2]
          rfl
        have e2 : q_X12_order (nI s) a53 = some ((t_X12_tells (nI R)).1, (t_X12_tells (nI R)).2) := by
          unfold q_X12_order
          rw [msT hs, ite10, degM hs hP b3, Option.bind_some, ei, ite10, numM hs h13 b3, Option.bind_some, if_pos (fun h => (oddT (by omega)).mp h o), r5, Option.bind_some, r3, Option.bind_some, r4]
        simp only [x1, if_true, q_L_order, e1, xbnd, Option.bind_some, e2, t_X12_tells, t_X12_thrown, ite00, c0, updL_eq, lgs]
        exact ⟨_, rfl⟩
      · have e1 : q_X11_order (nI s) a10 a11 c12_0 c12_1 = some (.inl 3, (pL P, pH P)) := by
          unfold q_X11_order
          rw [em]
          simp only [xbnd]
          rw [if_neg (fun h => h ((oddT (by omega)).mpr o))]
        have e2 : q_X12_order (nI s) a53 = some ((t_X12_fails 3).1, (t_X12_fails 3).2) := by
          unfold q_X12_order
          rw [msT hs, ite10, degM hs hP b3, Option.bind_some, ei, ite10, numM hs h13 b3, Option.bind_some, if_neg (fun h => h ((oddT (by omega)).mpr o))]
        simp only [x1, if_true, q_L_order, e1, xbnd, Option.bind_some, e2, t_X12_fails, t_X12_thrown]
        exact ⟨_, rfl⟩
    · obtain ⟨f1, f2⟩ := smallF (x := c12_0) (y := c12_1) hs hP b1 b2 c
      have e1 : q_X11_order (nI s) a10 a11 c12_0 c12_1 = some (.inl 5, (pL P, pH P)) := by
        unfold q_X11_order
        rw [f1]; rfl
      have e2 : q_X12_order (nI s) a53 = some ((t_X12_fails 2).1, (t_X12_fails 2).2) := by
        unfold q_X12_order
        rw [msT hs, ite10, degM hs hP b3, Option.bind_some, f2, ite00]
      simp only [x1, if_true, q_L_order, e1, xbnd, Option.bind_some, e2, t_X12_fails, t_X12_thrown]
      exact ⟨_, rfl⟩
  · have e1 : q_X11_order p1 a10 a11 c12_0 c12_1 = some (.inl 2, (c12_0, c12_1)) := by
      unfold q_X11_order
      rw [smallB hF]; rfl
    have e2 : q_X12_order p1 a53 = some ((t_X12_fails 1).1, (t_X12_fails 1).2) := by
      unfold q_X12_order
      rw [msF hF, ite00]
    simp only [x1, if_true, q_L_order, e1, xbnd, Option.bind_some, e2, t_X12_fails, t_X12_thrown]
    exact ⟨_, rfl⟩

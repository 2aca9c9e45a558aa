/-! The library's register, mirrored: steps back, and the word that is forged. -/
theorem rT_sh (q z y : Nat) : rT q (z ^^^ 2 * y) = rT q z ^^^ y := by
  rw [rT_low, Nat.testBit_zero, Nat.mul_mod_right, show (decide ((0 : Nat) = 1)).toNat = 0 from rfl, Nat.xor_zero, Nat.mul_div_cancel_left _ (by decide)]
theorem itT_sh (q : Nat) : ∀ k z u, itT q k (z ^^^ u * 2 ^ k) = itT q k z ^^^ u := by
  intro k
  induction k with
  | zero => intro z u; rw [Nat.pow_zero, Nat.mul_one]; rfl
  | succ k ih =>
    intro z u
    show itT q k (rT q (z ^^^ u * 2 ^ (k + 1))) = itT q k (rT q z) ^^^ u
    rw [show u * 2 ^ (k + 1) = 2 * (u * 2 ^ k) by rw [Nat.pow_succ, ← Nat.mul_assoc, Nat.mul_comm], rT_sh, ih]
theorem itT_add (q : Nat) : ∀ m n x, itT q (m + n) x = itT q n (itT q m x) := by
  intro m
  induction m with
  | zero => intro n x; rw [Nat.zero_add]; rfl
  | succ m ih =>
    intro n x
    rw [show m + 1 + n = (m + n) + 1 by omega]
    show itT q (m + n) (rT q x) = itT q n (itT q m (rT q x))
    rw [ih]
theorem itT_lt : ∀ k x, x < 2 ^ 32 → itT lM k x < 2 ^ 32 := by
  intro k
  induction k with
  | zero => intro x h; exact h
  | succ k ih => intro x h; exact ih _ (rT_lt h)
/-- a step back -/
def lT (y : Nat) : Nat := if y < 2147483648 then 2 * y else 2 * (y ^^^ lM) + 1
theorem lM31 : lM.testBit 31 = true := by decide +kernel
theorem lM32 : lM < 2 ^ 32 := by decide
theorem lT_rT {x : Nat} (hx : x < 2 ^ 32) : lT (rT lM x) = x := by
  unfold rT
  have hm : x % 2 = (x.testBit 0).toNat := by rw [← tb_div, Nat.pow_zero, Nat.div_one]
  cases c : x.testBit 0 with
  | true =>
    rw [c] at hm
    have hm : x % 2 = 1 := hm
    rw [if_pos rfl]
    have hg : 2 ^ 31 ≤ x / 2 ^^^ lM := Nat.ge_two_pow_of_testBit (by rw [Nat.testBit_xor, Nat.testBit_lt_two_pow (show x / 2 < 2 ^ 31 by omega), lM31]; rfl)
    unfold lT
    rw [if_neg (by omega), Nat.xor_assoc, Nat.xor_self, Nat.xor_zero]
    omega
  | false =>
    rw [c] at hm
    have hm : x % 2 = 0 := hm
    rw [if_neg (by decide)]
    unfold lT
    rw [if_pos (by omega)]
    omega
theorem rT_lT {y : Nat} (hy : y < 2 ^ 32) : rT lM (lT y) = y ∧ lT y < 2 ^ 32 := by
  unfold lT
  by_cases c : y < 2147483648
  · rw [if_pos c]
    refine ⟨?_, by omega⟩
    have := rT_sh lM 0 y
    rw [Nat.zero_xor] at this
    rw [this]
    show rT lM 0 ^^^ y = y
    rw [show rT lM 0 = 0 by decide, Nat.zero_xor]
  · rw [if_neg c]
    have hl : y ^^^ lM < 2 ^ 31 := xor_top hy lM32 (top_bit (Q := y) (b := 31) (by omega) hy) lM31
    refine ⟨?_, by omega⟩
    unfold rT
    rw [if_pos (show (2 * (y ^^^ lM) + 1).testBit 0 = true by rw [Nat.testBit_zero, decide_eq_true (by omega)]), show (2 * (y ^^^ lM) + 1) / 2 = y ^^^ lM by omega, Nat.xor_assoc, Nat.xor_self, Nat.xor_zero]
def itB : Nat → Nat → Nat
  | 0, y => y
  | k + 1, y => lT (itB k y)
theorem itB_lt : ∀ k y, y < 2 ^ 32 → itB k y < 2 ^ 32 := by
  intro k
  induction k with
  | zero => intro y h; exact h
  | succ k ih => intro y h; exact (rT_lT (ih y h)).2
theorem itB_add (m : Nat) : ∀ n y, itB (n + m) y = itB n (itB m y) := by
  intro n
  induction n with
  | zero => intro y; rw [Nat.zero_add]; rfl
  | succ n ih =>
    intro y
    rw [show n + 1 + m = (n + m) + 1 by omega]
    show lT (itB (n + m) y) = lT (itB n (itB m y))
    rw [ih]
theorem itT_itB {y : Nat} (hy : y < 2 ^ 32) : ∀ k, itT lM k (itB k y) = y := by
  intro k
  induction k with
  | zero => rfl
  | succ k ih =>
    show itT lM k (rT lM (lT (itB k y))) = y
    rw [(rT_lT (itB_lt k y hy)).1, ih]
theorem itT_ker : ∀ k x, x < 2 ^ 32 → itT lM k x = 0 → x = 0 := by
  intro k
  induction k with
  | zero => intro x _ h; exact h
  | succ k ih =>
    intro x hx h
    have := ih (rT lM x) (rT_lt hx) h
    have e := lT_rT hx
    rw [this] at e
    rw [← e]
    rfl
theorem nI_sgn {y : Nat} (hy : y < 4294967296) : nI y < 0 ↔ 2147483648 ≤ y := by
  have e : (nI y).toInt = if 2 * y < 2 ^ 32 then (y : Int) else (y : Int) - (2 ^ 32 : Nat) := by
    show (nI y).toBitVec.toInt = _
    rw [nI_bv, BitVec.toInt_eq_toNat_cond, BitVec.toNat_ofNat, Nat.mod_eq_of_lt (show y < 2 ^ 32 by omega)]
  rw [ltI, i0, e]
  split <;> omega
theorem backI1 {y : Nat} (hy : y < 4294967296) : (if nI y < (0 : Int32) then (((nI y ^^^ (-2097792136 : Int32)) <<< ((1 : Int32) &&& (31 : Int32))) ||| (1 : Int32)) else (nI y <<< ((1 : Int32) &&& (31 : Int32)))) = nI (lT y) := by
  unfold lT
  by_cases c : y < 2147483648
  · rw [if_neg (fun q => by have := (nI_sgn hy).mp q; omega), if_pos c, k1, nI_shl _ (k := 1) (by omega), Nat.pow_one, Nat.mul_comm]
  · rw [if_pos ((nI_sgn hy).mpr (by omega)), if_neg c, show (-2097792136 : Int32) = nI lM by decide, nI_xor, k1, nI_shl _ (k := 1) (by omega), nI_or, Nat.or_comm, or_add (a := 1) (i := 1) (by decide), Nat.pow_one]
theorem movedB {y : Nat} (hy : y < 2 ^ 32) : q_X2_movedBack (nI y) = some (nI (itB 8 y)) := by
  obtain ⟨r, hr, g⟩ := loop_inv (F := fun f (z : Int32 × Int32) => q_X2_movedBack_L4 f z.1 z.2)
    (fun j z => z = (nI (itB j y), nI j)) (fun r => r.1 = nI (itB 8 y)) 8
    (fun f z h => by
      subst h
      exact ⟨_, by show q_X2_movedBack_L4 (f + 1) (nI _) (nI 8) = _; rw [q_X2_movedBack_L4, if_pos (by decide)], rfl⟩)
    (fun f j z hj h => by
      subst h
      refine Or.inr ⟨(nI (itB (j + 1) y), nI (j + 1)), ?_, rfl⟩
      have hl := itB_lt j y hy
      show q_X2_movedBack_L4 (f + 1) (nI (itB j y)) (nI j) = q_X2_movedBack_L4 f (nI (lT (itB j y))) (nI (j + 1))
      rw [q_X2_movedBack_L4, if_neg (show ¬ (8 : Int32) ≤ nI j from nI_ge (b := 8) hj (by decide)), backI1 hl, nI_1])
    10000 0 (nI y, nI 0) rfl (Nat.zero_le _) (by omega)
  have hr' : q_X2_movedBack_L4 10000 (nI y) 0 = some r := hr
  unfold q_X2_movedBack
  rw [hr', Option.bind_some, g]
/-- the mirrored register behind a span -/
def mg (B : Nat → Nat) (a y : Nat) : Nat → Nat
  | 0 => y
  | n + 1 => itT lM 8 (mg B a y n ^^^ B (a + n))
theorem mg_reg {B : Nat → Nat} {a s : Nat} : ∀ n, (∀ k, k < n → B (a + k) < 256) → mir (reg 32 lP 1 B a s n) 32 = mg B a (mir s 32) n := by
  intro n
  induction n with
  | zero => intro _; rfl
  | succ n ih =>
    intro h
    show mir (feed 32 lP 1 (reg 32 lP 1 B a s n) (B (a + n))) 32 = itT lM 8 (mg B a (mir s 32) n ^^^ B (a + n))
    rw [mir_feed (by decide) (h n (by omega)), lPM, ih (fun k hk => h k (by omega))]
theorem mg_app {B : Nat → Nat} {a y n : Nat} : ∀ m, mg B a y (n + m) = mg B (a + n) (mg B a y n) m := by
  intro m
  induction m with
  | zero => rfl
  | succ m ih =>
    show itT lM 8 (mg B a y (n + m) ^^^ B (a + (n + m))) = itT lM 8 (mg B (a + n) (mg B a y n) m ^^^ B (a + n + m))
    rw [ih, Nat.add_assoc]
theorem mg_congr {B C : Nat → Nat} {a b y : Nat} : ∀ n, (∀ k, k < n → B (a + k) = C (b + k)) → mg B a y n = mg C b y n := by
  intro n
  induction n with
  | zero => intro _; rfl
  | succ n ih =>
    intro h
    show itT lM 8 (mg B a y n ^^^ B (a + n)) = itT lM 8 (mg C b y n ^^^ C (b + n))
    rw [ih (fun k hk => h k (by omega)), h n (by omega)]
theorem mg_lt {B : Nat → Nat} {a y : Nat} (hy : y < 2 ^ 32) : ∀ n, (∀ k, k < n → B (a + k) < 256) → mg B a y n < 2 ^ 32 := by
  intro n
  induction n with
  | zero => intro _; exact hy
  | succ n ih =>
    intro h
    have h1 := h n (by omega)
    exact itT_lt 8 _ (Nat.xor_lt_two_pow (ih (fun k hk => h k (by omega))) (by omega))
theorem low8 (x : Nat) : x ^^^ x % 256 = x / 256 * 2 ^ 8 := by
  apply Nat.eq_of_testBit_eq
  intro i
  rw [Nat.testBit_xor, show (256 : Nat) = 2 ^ 8 from rfl, Nat.testBit_mod_two_pow, Nat.testBit_mul_two_pow, Nat.testBit_div_two_pow]
  by_cases c : 8 ≤ i
  · rw [decide_eq_false (show ¬ i < 8 by omega), decide_eq_true c, Nat.sub_add_cancel c]
    cases x.testBit i <;> rfl
  · rw [decide_eq_true (show i < 8 by omega), decide_eq_false c]
    cases x.testBit i <;> rfl
/-- four bytes, the lowest one first -/
theorem mg_word {g y : Nat} (hg : g < 2 ^ 32) : mg (fun i => g / 2 ^ (8 * i) % 256) 0 y 4 = itT lM 32 (y ^^^ g) := by
  have key : ∀ j, mg (fun i => g / 2 ^ (8 * i) % 256) 0 y j = itT lM (8 * j) (y ^^^ g) ^^^ g / 2 ^ (8 * j) := by
    intro j
    induction j with
    | zero =>
      show y = (y ^^^ g) ^^^ g / 2 ^ (8 * 0)
      rw [Nat.mul_zero, Nat.pow_zero, Nat.div_one, Nat.xor_assoc, Nat.xor_self, Nat.xor_zero]
    | succ j ih =>
      show itT lM 8 (mg (fun i => g / 2 ^ (8 * i) % 256) 0 y j ^^^ g / 2 ^ (8 * (0 + j)) % 256) = _
      rw [ih, Nat.zero_add, Nat.xor_assoc, low8, itT_sh, ← itT_add, Nat.div_div_eq_div_mul, show 2 ^ (8 * j) * 256 = 2 ^ (8 * (j + 1)) by rw [show 8 * (j + 1) = 8 * j + 8 by omega, Nat.pow_add], show 8 * j + 8 = 8 * (j + 1) by omega]
  have h4 := key 4
  rw [show 8 * 4 = 32 from rfl, Nat.div_eq_of_lt hg, Nat.xor_zero] at h4
  exact h4
/-- bytes turned round -/
def sw (g : Nat) : Nat := 16777216 * (g % 256) + (65536 * (g / 256 % 256) + (256 * (g / 65536 % 256) + g / 16777216))
theorem and65 (x : Nat) : x &&& 65280 = x / 256 % 256 * 2 ^ 8 := by
  apply Nat.eq_of_testBit_eq
  intro i
  rw [Nat.testBit_and, show (65280 : Nat) = (2 ^ 8 - 1) * 2 ^ 8 from rfl, Nat.testBit_mul_two_pow, Nat.testBit_mul_two_pow, Nat.testBit_two_pow_sub_one, show (256 : Nat) = 2 ^ 8 from rfl, Nat.testBit_mod_two_pow, Nat.testBit_div_two_pow]
  by_cases c : 8 ≤ i
  · rw [decide_eq_true c, Nat.sub_add_cancel c]
    cases x.testBit i <;> cases decide (i - 8 < 8) <;> rfl
  · rw [decide_eq_false c]
    cases x.testBit i <;> rfl
theorem sw_lt {g : Nat} (hg : g < 4294967296) : sw g < 4294967296 := by
  unfold sw
  omega
theorem or4 (x y z w : Nat) : ((x ||| y) ||| z) ||| w = ((w ||| z) ||| y) ||| x := by
  apply Nat.eq_of_testBit_eq
  intro i
  rw [Nat.testBit_or, Nat.testBit_or, Nat.testBit_or, Nat.testBit_or, Nat.testBit_or, Nat.testBit_or]
  cases x.testBit i <;> cases y.testBit i <;> cases z.testBit i <;> cases w.testBit i <;> rfl
theorem by4 {a b c d : Nat} (ha : a < 256) (hb : b < 256) (hc : c < 256) (hd : d < 256) : (16777216 * a + (65536 * b + (256 * c + d))) / 16777216 = a ∧ (16777216 * a + (65536 * b + (256 * c + d))) / 65536 % 256 = b ∧ (16777216 * a + (65536 * b + (256 * c + d))) / 256 % 256 = c ∧ (16777216 * a + (65536 * b + (256 * c + d))) % 256 = d := by
  refine ⟨by omega, by omega, by omega, by omega⟩
/-- four bytes of a number -/
theorem sp4 {g : Nat} (hg : g < 4294967296) : ∃ a b c d, a < 256 ∧ b < 256 ∧ c < 256 ∧ d < 256 ∧ g = 16777216 * a + (65536 * b + (256 * c + d)) := by
  have q1 : g / 256 / 256 = g / 65536 := Nat.div_div_eq_div_mul g 256 256
  have q2 : g / 65536 / 256 = g / 16777216 := Nat.div_div_eq_div_mul g 65536 256
  exact ⟨g / 16777216, g / 65536 % 256, g / 256 % 256, g % 256, by omega, by omega, by omega, by omega, by omega⟩
theorem sw_of {a b c d : Nat} (ha : a < 256) (hb : b < 256) (hc : c < 256) (hd : d < 256) : sw (16777216 * a + (65536 * b + (256 * c + d))) = 16777216 * d + (65536 * c + (256 * b + a)) := by
  obtain ⟨e1, e2, e3, e4⟩ := by4 ha hb hc hd
  unfold sw
  rw [e1, e2, e3, e4]
theorem swI {g : Nat} (hg : g < 4294967296) : ((((nI g <<< ((24 : Int32) &&& (31 : Int32))) ||| ((nI g &&& (65280 : Int32)) <<< ((8 : Int32) &&& (31 : Int32)))) ||| ((xus (nI g) (8 : Int32)) &&& (65280 : Int32))) ||| (xus (nI g) (24 : Int32))) = nI (sw g) := by
  have e1 : nI g <<< ((24 : Int32) &&& (31 : Int32)) = nI (g % 256 * 2 ^ 24) := by
    rw [show (24 : Int32) = nI 24 from rfl, nI_shl _ (k := 24) (by omega), ← nI_m32 (g * 2 ^ 24), ← nI_m32 (g % 256 * 2 ^ 24), show g * 2 ^ 24 % 2 ^ 32 = g % 256 * 2 ^ 24 % 2 ^ 32 by omega]
  have e2 : (nI g &&& (65280 : Int32)) <<< ((8 : Int32) &&& (31 : Int32)) = nI (g / 256 % 256 * 2 ^ 16) := by
    rw [show (65280 : Int32) = nI 65280 from rfl, nI_and, and65, show (8 : Int32) = nI 8 from rfl, nI_shl _ (k := 8) (by omega), Nat.mul_assoc]
  have e3 : (xus (nI g) (8 : Int32)) &&& (65280 : Int32) = nI (g / 65536 % 256 * 2 ^ 8) := by
    rw [show (8 : Int32) = nI 8 from rfl, nI_xus hg (by omega), show (65280 : Int32) = nI 65280 from rfl, nI_and, and65, Nat.div_div_eq_div_mul]
  have e4 : xus (nI g) (24 : Int32) = nI (g / 16777216) := by
    rw [show (24 : Int32) = nI 24 from rfl, nI_xus hg (by omega)]
  have h3 : g / 16777216 < 2 ^ 8 := by omega
  have h2 : 2 ^ 8 * (g / 65536 % 256) + g / 16777216 < 2 ^ 16 := by omega
  have h1 : 2 ^ 16 * (g / 256 % 256) + (2 ^ 8 * (g / 65536 % 256) + g / 16777216) < 2 ^ 24 := by omega
  have e6 : 2 ^ 24 * (g % 256) + (2 ^ 16 * (g / 256 % 256) + (2 ^ 8 * (g / 65536 % 256) + g / 16777216)) = sw g := by
    unfold sw
    omega
  rw [e1, e2, e3, e4, nI_or, nI_or, nI_or, or4, or_add h3, or_add h2, or_add h1, e6]
theorem bw_sw {g i : Nat} (hg : g < 4294967296) (hi : i < 4) : bw (sw g) i = g / 2 ^ (8 * i) % 256 := by
  obtain ⟨a, b, c, d, ha, hb, hc, hd, rfl⟩ := sp4 hg
  obtain ⟨e1, e2, e3, e4⟩ := by4 ha hb hc hd
  obtain ⟨f1, f2, f3, f4⟩ := by4 hd hc hb ha
  unfold bw
  rw [sw_of ha hb hc hd]
  have h0 : ∀ X : Nat, X / 2 ^ (24 - 8 * 0) % 256 = X / 16777216 % 256 := fun X => rfl
  have h1 : ∀ X : Nat, X / 2 ^ (24 - 8 * 1) % 256 = X / 65536 % 256 := fun X => rfl
  have h2 : ∀ X : Nat, X / 2 ^ (24 - 8 * 2) % 256 = X / 256 % 256 := fun X => rfl
  have h3 : ∀ X : Nat, X / 2 ^ (24 - 8 * 3) % 256 = X / 1 % 256 := fun X => rfl
  have j0 : ∀ X : Nat, X / 2 ^ (8 * 0) % 256 = X / 1 % 256 := fun X => rfl
  have j1 : ∀ X : Nat, X / 2 ^ (8 * 1) % 256 = X / 256 % 256 := fun X => rfl
  have j2 : ∀ X : Nat, X / 2 ^ (8 * 2) % 256 = X / 65536 % 256 := fun X => rfl
  have j3 : ∀ X : Nat, X / 2 ^ (8 * 3) % 256 = X / 16777216 % 256 := fun X => rfl
  match i, hi with
  | 0, _ => rw [h0, j0, f1, Nat.div_one, e4, Nat.mod_eq_of_lt hd]
  | 1, _ => rw [h1, j1, f2, e3]
  | 2, _ => rw [h2, j2, f3, e2]
  | 3, _ => rw [h3, j3, Nat.div_one, f4, e1, Nat.mod_eq_of_lt ha]
/-- the row with another word from a place on -/
def wB (B : Nat → Nat) (x v : Nat) : Nat → Nat := fun k => if x ≤ k ∧ k < x + 4 then bw v (k - x) else B k
theorem wB_lt {B : Nat → Nat} {x v n : Nat} (h : ∀ k, k < n → B k < 256) : ∀ k, k < n → wB B x v k < 256 := by
  intro k hk
  unfold wB
  by_cases c : x ≤ k ∧ k < x + 4
  · rw [if_pos c]; exact bw_lt v (k - x)
  · rw [if_neg c]; exact h k hk
/-- the library's sum of it -/
def sW (B : Nat → Nat) (x n v : Nat) : Nat := outS 32 1 lE (reg 32 lP 1 (wB B x v) 0 lE n)
theorem sW_lt (B : Nat → Nat) (x n v : Nat) : sW B x n v < 4294967296 := lib_lt (by decide)
theorem sW_mg {B : Nat → Nat} {x n v : Nat} (hB : ∀ k, k < n → B k < 256) (hx : x + 4 ≤ n) : sW B x n v = mg B (x + 4) (mg (bw v) 0 (mg B 0 (mir lE 32) x) 4) (n - x - 4) ^^^ lE := by
  have e0 : sW B x n v = mir (reg 32 lP 1 (wB B x v) 0 lE n) 32 ^^^ lE := by
    unfold sW outS
    rw [if_neg (by decide)]
  rw [e0, mg_reg n (fun k hk => by rw [Nat.zero_add]; exact wB_lt hB k hk)]
  have h1 := mg_app (B := wB B x v) (a := 0) (y := mir lE 32) (n := x + 4) (n - x - 4)
  have h2 := mg_app (B := wB B x v) (a := 0) (y := mir lE 32) (n := x) 4
  rw [show x + 4 + (n - x - 4) = n by omega] at h1
  rw [h1, h2, Nat.zero_add, Nat.zero_add]
  congr 1
  rw [mg_congr (B := wB B x v) (C := B) (a := x + 4) (b := x + 4) (n - x - 4) (fun k _ => if_neg (by omega))]
  congr 1
  rw [mg_congr (B := wB B x v) (C := bw v) (a := x) (b := 0) 4 (fun k hk => by
    show (if x ≤ x + k ∧ x + k < x + 4 then bw v (x + k - x) else B (x + k)) = bw v (0 + k)
    rw [if_pos (by omega), Nat.zero_add, Nat.add_sub_cancel_left])]
  congr 1
  exact mg_congr x (fun k _ => if_neg (by omega))
theorem back22 {x n : Nat} {B : Nat → Nat} {a2 : Nat → Int32} (hn : n ≤ 64) (hB : ∀ k, k < n → B k < 256 ∧ a2 k = nI (B k)) : ∀ k f y, x + 4 + k ≤ n → y < 2 ^ 32 → k < f → ∃ Y z, Y < 2 ^ 32 ∧ q_X2_forgedWord_L22 (nI x) a2 f (nI y) (nI (x + 4 + k) + (-1)) = some (nI Y, z) ∧ mg B (x + 4) Y k = y := by
  intro k
  induction k with
  | zero =>
    intro f y hk hy hf
    obtain ⟨f, rfl⟩ : ∃ g, f = g + 1 := ⟨f - 1, by omega⟩
    refine ⟨y, nI (x + 4 + 0) + (-1), hy, ?_, rfl⟩
    rw [q_X2_forgedWord_L22, show nI x + (3 : Int32) = nI (x + 3) from nI_add x 3, if_pos]
    rw [nI_m1 (by omega)]
    exact nI_le (by omega) (by omega)
  | succ k ih =>
    intro f y hk hy hf
    obtain ⟨f, rfl⟩ : ∃ g, f = g + 1 := ⟨f - 1, by omega⟩
    obtain ⟨b1, b2⟩ := hB (x + 4 + k) (by omega)
    have hb8 := itB_lt 8 y hy
    have hy' : itB 8 y ^^^ B (x + 4 + k) < 2 ^ 32 := Nat.xor_lt_two_pow hb8 (by omega)
    obtain ⟨Y, z, h1, h2, h3⟩ := ih f (itB 8 y ^^^ B (x + 4 + k)) (by omega) hy' (by omega)
    refine ⟨Y, z, h1, ?_, ?_⟩
    · rw [nI_m1 (by omega), show x + 4 + (k + 1) - 1 = x + 4 + k by omega, q_X2_forgedWord_L22, show nI x + (3 : Int32) = nI (x + 3) from nI_add x 3, if_neg (nI_ge (by omega) (by omega)), movedB hy, Option.bind_some, atI (by omega) (by omega), b2, nI_xor]
      exact h2
    · show itT lM 8 (mg B (x + 4) Y k ^^^ B (x + 4 + k)) = y
      rw [h3, Nat.xor_assoc, Nat.xor_self, Nat.xor_zero, itT_itB hy]
theorem back53 {y : Nat} (hy : y < 2 ^ 32) : ∃ r : Int32 × Int32, q_X2_forgedWord_L53 10000 (nI y) 0 = some r ∧ r.1 = nI (itB 32 y) := by
  obtain ⟨r, hr, g⟩ := loop_inv (F := fun f (z : Int32 × Int32) => q_X2_forgedWord_L53 f z.1 z.2)
    (fun j z => z = (nI (itB (8 * j) y), nI j)) (fun r => r.1 = nI (itB (8 * 4) y)) 4
    (fun f z h => by
      subst h
      refine ⟨(nI (itB (8 * 4) y), nI 4), ?_, rfl⟩
      show q_X2_forgedWord_L53 (f + 1) (nI (itB (8 * 4) y)) (nI 4) = _
      rw [q_X2_forgedWord_L53, if_pos (show (4 : Int32) ≤ nI 4 by decide)])
    (fun f j z hj h => by
      subst h
      refine Or.inr ⟨(nI (itB (8 * (j + 1)) y), nI (j + 1)), ?_, rfl⟩
      have hl := itB_lt (8 * j) y hy
      have e : itB (8 * (j + 1)) y = itB 8 (itB (8 * j) y) := by rw [show 8 * (j + 1) = 8 + 8 * j by omega, itB_add]
      show q_X2_forgedWord_L53 (f + 1) (nI (itB (8 * j) y)) (nI j) = q_X2_forgedWord_L53 f (nI (itB (8 * (j + 1)) y)) (nI (j + 1))
      rw [q_X2_forgedWord_L53, if_neg (show ¬ (4 : Int32) ≤ nI j from nI_ge (b := 4) hj (by decide)), movedB hl, Option.bind_some, nI_1, e])
    10000 0 (nI y, nI 0) rfl (Nat.zero_le _) (by omega)
  exact ⟨r, hr, g⟩
/-- the class's word has the wanted sum -/
theorem forgeC {x n t : Nat} {B : Nat → Nat} {a2 : Nat → Int32} (hx : x + 4 ≤ n) (hn : n ≤ 64) (ht : t < 4294967296) (hB : ∀ k, k < n → B k < 256 ∧ a2 k = nI (B k)) : ∃ v, v < 4294967296 ∧ q_X2_forgedWord (nI x) (lN t) a2 (nI n) = some (nI v) ∧ sW B x n v = t := by
  have hE : lE < 2 ^ 32 := by decide
  have e1 := libBehind (Nat.zero_le x) (show x ≤ 64 by omega) (B := B) (a2 := a2) (fun k hk => hB k (by omega))
  rw [Nat.sub_zero] at e1
  rw [mg_reg x (fun k hk => by rw [Nat.zero_add]; exact (hB k (by omega)).1)] at e1
  have e1 : q_X2_registerBehind 0 (nI x) a2 = _ := e1
  have hy : t ^^^ lE < 2 ^ 32 := Nat.xor_lt_two_pow ht hE
  obtain ⟨Y, z, y1, y2, y3⟩ := back22 (x := x) hn hB (n - x - 4) 10000 (t ^^^ lE) (by omega) hy (by omega)
  rw [show x + 4 + (n - x - 4) = n by omega] at y2
  obtain ⟨r, r1, r2⟩ := back53 y1
  have h0 : mg B 0 (mir lE 32) x < 2 ^ 32 := mg_lt (mir_lt lE 32) x (fun k hk => by rw [Nat.zero_add]; exact (hB k (by omega)).1)
  have hZ := itB_lt 32 Y y1
  have hg : mg B 0 (mir lE 32) x ^^^ itB 32 Y < 2 ^ 32 := Nat.xor_lt_two_pow h0 hZ
  refine ⟨sw (mg B 0 (mir lE 32) x ^^^ itB 32 Y), sw_lt hg, ?_, ?_⟩
  · unfold q_X2_forgedWord
    rw [e1, Option.bind_some, lN_i, show (-1 : Int32) = nI lE by decide, nI_xor, show t_X5_size (nI n) - 1 = nI n + (-1) by rw [nI_m1 (by omega)]; exact nI_pred' (by omega), y2, Option.bind_some, r1, Option.bind_some, r2, nI_xor, swI hg]
  · rw [sW_mg (fun k hk => (hB k hk).1) hx, mg_congr (B := bw (sw (mg B 0 (mir lE 32) x ^^^ itB 32 Y))) (C := fun i => (mg B 0 (mir lE 32) x ^^^ itB 32 Y) / 2 ^ (8 * i) % 256) (a := 0) (b := 0) 4 (fun k hk => by rw [Nat.zero_add]; exact bw_sw hg hk), mg_word hg, ← Nat.xor_assoc, Nat.xor_self, Nat.zero_xor, itT_itB y1, y3, Nat.xor_assoc, Nat.xor_self, Nat.xor_zero]

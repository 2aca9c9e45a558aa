/-! The ring of registers; the calls joined and changed. -/
theorem kT_xor {w p a b : Nat} (h1 : 1 ≤ w) : kT w p (a ^^^ b) = kT w p a ^^^ kT w p b := by
  apply Nat.eq_of_testBit_eq
  intro i
  rw [Nat.testBit_xor, kT_bit h1, kT_bit h1, kT_bit h1, Nat.testBit_xor, Nat.testBit_xor]
  cases decide (i < w) <;> cases decide (1 ≤ i) <;> cases a.testBit (i - 1) <;> cases b.testBit (i - 1) <;> cases a.testBit (w - 1) <;> cases b.testBit (w - 1) <;> cases p.testBit i <;> rfl
theorem kT_0 {w p : Nat} : kT w p 0 = 0 := by
  unfold kT
  rw [Nat.zero_div, if_neg (by decide), Nat.mul_zero, Nat.zero_mod]
def iT (w p : Nat) : Nat → Nat → Nat
  | 0, r => r
  | m + 1, r => kT w p (iT w p m r)
theorem iT_0 {w p : Nat} : ∀ m, iT w p m 0 = 0 := by
  intro m
  induction m with
  | zero => rfl
  | succ m ih => show kT w p (iT w p m 0) = 0; rw [ih, kT_0]
theorem iT_xor {w p a b : Nat} (h1 : 1 ≤ w) : ∀ m, iT w p m (a ^^^ b) = iT w p m a ^^^ iT w p m b := by
  intro m
  induction m with
  | zero => rfl
  | succ m ih => show kT w p (iT w p m _) = kT w p (iT w p m a) ^^^ kT w p (iT w p m b); rw [ih, kT_xor h1]
theorem iT_add {w p r : Nat} (n : Nat) : ∀ m, iT w p (m + n) r = iT w p m (iT w p n r) := by
  intro m
  induction m with
  | zero => rw [Nat.zero_add]; rfl
  | succ m ih => rw [show m + 1 + n = (m + n) + 1 by omega]; show kT w p (iT w p (m + n) r) = kT w p _; rw [ih]
theorem iT_comm {w p r : Nat} (m n : Nat) : iT w p m (iT w p n r) = iT w p n (iT w p m r) := by rw [← iT_add, ← iT_add, Nat.add_comm]
theorem iT_lt {w p r : Nat} (hp : p < 2 ^ w) (hr : r < 2 ^ w) : ∀ m, iT w p m r < 2 ^ w := by
  intro m
  cases m with
  | zero => exact hr
  | succ m => exact kT_lt hp
def xs (f : Nat → Nat) (b : Nat) : Nat → Nat
  | 0 => 0
  | n + 1 => xs f b n ^^^ (if b.testBit n = true then f n else 0)
theorem xs_map {f g : Nat → Nat} {b : Nat} (h0 : g 0 = 0) (hg : ∀ x y, g (x ^^^ y) = g x ^^^ g y) : ∀ n, g (xs f b n) = xs (fun k => g (f k)) b n := by
  intro n
  induction n with
  | zero => exact h0
  | succ n ih =>
    show g (xs f b n ^^^ _) = xs (fun k => g (f k)) b n ^^^ _
    rw [hg, ih]
    congr 1
    split
    · rfl
    · exact h0
theorem xs_congr {f g : Nat → Nat} {b c : Nat} : ∀ n, (∀ k, k < n → f k = g k ∧ b.testBit k = c.testBit k) → xs f b n = xs g c n := by
  intro n
  induction n with
  | zero => intro _; rfl
  | succ n ih =>
    intro h
    show xs f b n ^^^ _ = xs g c n ^^^ _
    rw [ih (fun k hk => h k (by omega)), (h n (by omega)).1, (h n (by omega)).2]
theorem xor4 (a b c d : Nat) : (a ^^^ b) ^^^ (c ^^^ d) = (a ^^^ c) ^^^ (b ^^^ d) := by
  rw [Nat.xor_assoc, Nat.xor_assoc, ← Nat.xor_assoc b c d, Nat.xor_comm b c, Nat.xor_assoc c b d]
theorem xs_f {f g : Nat → Nat} {b : Nat} : ∀ n, xs (fun k => f k ^^^ g k) b n = xs f b n ^^^ xs g b n := by
  intro n
  induction n with
  | zero => show 0 = 0 ^^^ 0; decide
  | succ n ih =>
    show xs (fun k => f k ^^^ g k) b n ^^^ _ = (xs f b n ^^^ _) ^^^ (xs g b n ^^^ _)
    rw [ih, xor4]
    congr 1
    cases b.testBit n
    · show 0 = 0 ^^^ 0; decide
    · rfl
theorem xs_b {f : Nat → Nat} {b c : Nat} : ∀ n, xs f (b ^^^ c) n = xs f b n ^^^ xs f c n := by
  intro n
  induction n with
  | zero => show 0 = 0 ^^^ 0; decide
  | succ n ih =>
    show xs f (b ^^^ c) n ^^^ _ = (xs f b n ^^^ _) ^^^ (xs f c n ^^^ _)
    rw [ih, xor4, Nat.testBit_xor]
    congr 1
    cases b.testBit n <;> cases c.testBit n
    · show 0 = 0 ^^^ 0; decide
    · exact (Nat.zero_xor _).symm
    · exact (Nat.xor_zero _).symm
    · exact (Nat.xor_self _).symm
theorem xs_bit (r : Nat) : ∀ n i, (xs (fun k => 2 ^ k) r n).testBit i = (decide (i < n) && r.testBit i) := by
  intro n
  induction n with
  | zero => intro i; rw [show xs _ r 0 = 0 from rfl, Nat.zero_testBit, decide_eq_false (Nat.not_lt_zero i), Bool.false_and]
  | succ n ih =>
    intro i
    show (xs _ r n ^^^ (if r.testBit n = true then 2 ^ n else 0)).testBit i = _
    rw [Nat.testBit_xor, ih]
    by_cases e : i = n
    · subst e
      rw [decide_eq_false (show ¬ i < i by omega), decide_eq_true (show i < i + 1 by omega), Bool.false_and, Bool.false_xor, Bool.true_and]
      cases r.testBit i with
      | true => rw [if_pos rfl, Nat.testBit_two_pow_self]
      | false => rw [if_neg (by decide), Nat.zero_testBit]
    · rw [show decide (i < n + 1) = decide (i < n) from decide_eq_decide.mpr (by omega)]
      have : (if r.testBit n = true then 2 ^ n else 0).testBit i = false := by
        split
        · exact Nat.testBit_two_pow_of_ne (Ne.symm e)
        · exact Nat.zero_testBit i
      rw [this, Bool.xor_false]
theorem xs_self {r w : Nat} (h : r < 2 ^ w) : xs (fun k => 2 ^ k) r w = r := by
  apply Nat.eq_of_testBit_eq
  intro i
  rw [xs_bit]
  by_cases c : i < w
  · rw [decide_eq_true c, Bool.true_and]
  · rw [decide_eq_false c, Bool.false_and, Nat.testBit_lt_two_pow (Nat.lt_of_lt_of_le h (Nat.pow_le_pow_right (by decide) (by omega)))]
theorem iT_pow {w p : Nat} : ∀ j, j < w → iT w p j 1 = 2 ^ j := by
  intro j
  induction j with
  | zero => intro _; rfl
  | succ j ih =>
    intro h
    show kT w p (iT w p j 1) = _
    rw [ih (by omega)]
    unfold kT
    rw [Nat.div_eq_of_lt (Nat.pow_lt_pow_right (by decide) (show j < w - 1 by omega)), if_neg (by decide), Nat.mul_comm 2, ← Nat.pow_succ, Nat.mod_eq_of_lt (Nat.pow_lt_pow_right (by decide) h)]
theorem iT_w {w p : Nat} (h1 : 1 ≤ w) : iT w p w 1 = p := by
  obtain ⟨v, rfl⟩ : ∃ v, w = v + 1 := ⟨w - 1, by omega⟩
  show kT (v + 1) p (iT (v + 1) p v 1) = p
  rw [iT_pow v (by omega)]
  unfold kT
  rw [show v + 1 - 1 = v by omega, Nat.div_self (Nat.two_pow_pos v), if_pos (by decide), Nat.mul_comm 2, ← Nat.pow_succ, Nat.mod_self, Nat.zero_xor]
theorem tm_xs {w p a b : Nat} (h1 : 1 ≤ w) : ∀ k r, tm w p a b k r = iT w p k r ^^^ xs (fun j => iT w p j a) b k := by
  intro k
  induction k with
  | zero => intro r; exact (Nat.xor_zero r).symm
  | succ k ih =>
    intro r
    have e : kT w p (iT w p k r) = iT w p k (kT w p r) := (iT_comm k 1).symm
    show tm w p a b k (if b.testBit k = true then kT w p r ^^^ a else kT w p r) = kT w p (iT w p k r) ^^^ (xs _ b k ^^^ (if b.testBit k = true then iT w p k a else 0))
    rw [ih, e]
    cases b.testBit k with
    | true => rw [if_pos rfl, if_pos rfl, iT_xor h1, Nat.xor_assoc, Nat.xor_comm (iT w p k a)]
    | false => rw [if_neg (by decide), if_neg (by decide), Nat.xor_zero]
theorem tmw_xs {w p a b : Nat} (h1 : 1 ≤ w) : tmw w p a b = xs (fun j => iT w p j a) b w := by
  unfold tmw
  rw [tm_xs h1, iT_0, Nat.zero_xor]
theorem ch {w p r : Nat} (h1 : 1 ≤ w) (hp : p < 2 ^ w) (hr : r < 2 ^ w) : xs (fun k => iT w p k r) p w = iT w p w r := by
  have er : xs (fun j => iT w p j 1) r w = r := by
    rw [xs_congr (g := fun k => 2 ^ k) (c := r) w (fun k hk => ⟨iT_pow k hk, rfl⟩), xs_self hr]
  have ep : xs (fun j => iT w p j 1) p w = p := by
    rw [xs_congr (g := fun k => 2 ^ k) (c := p) w (fun k hk => ⟨iT_pow k hk, rfl⟩), xs_self hp]
  have l0 : xs (fun k => iT w p k 0) p w = 0 := by
    have : ∀ n, xs (fun k => iT w p k 0) p n = 0 := by
      intro n
      induction n with
      | zero => rfl
      | succ n ih => show xs _ p n ^^^ _ = 0; rw [ih, Nat.zero_xor]; split; exact iT_0 n; rfl
    exact this w
  have lx : ∀ x y, xs (fun k => iT w p k (x ^^^ y)) p w = xs (fun k => iT w p k x) p w ^^^ xs (fun k => iT w p k y) p w := by
    intro x y
    rw [← xs_f]
    exact xs_congr w (fun k _ => ⟨iT_xor h1 k, rfl⟩)
  have e1 := xs_map (f := fun j => iT w p j 1) (g := fun x => xs (fun k => iT w p k x) p w) (b := r) l0 lx w
  have e2 := xs_map (f := fun j => iT w p j 1) (g := fun x => iT w p w x) (b := r) (iT_0 w) (fun x y => iT_xor h1 w) w
  rw [er] at e1 e2
  rw [e1, e2]
  refine xs_congr w (fun j _ => ⟨?_, rfl⟩)
  show xs (fun k => iT w p k (iT w p j 1)) p w = iT w p w (iT w p j 1)
  rw [iT_comm w j, iT_w h1]
  have e3 := xs_map (f := fun k => iT w p k 1) (g := fun x => iT w p j x) (b := p) (iT_0 j) (fun x y => iT_xor h1 j) w
  rw [ep] at e3
  rw [e3]
  exact xs_congr w (fun k _ => ⟨iT_comm k j, rfl⟩)
theorem xs_dbl {f : Nat → Nat} {b : Nat} : ∀ n, xs f (2 * b) (n + 1) = xs (fun k => f (k + 1)) b n := by
  intro n
  induction n with
  | zero =>
    show 0 ^^^ (if (2 * b).testBit 0 = true then f 0 else 0) = 0
    rw [Nat.testBit_zero, Nat.mul_mod_right, if_neg (by decide)]
    rfl
  | succ n ih =>
    show xs f (2 * b) (n + 1) ^^^ (if (2 * b).testBit (n + 1) = true then f (n + 1) else 0) = xs _ b n ^^^ (if b.testBit n = true then f (n + 1) else 0)
    rw [ih, Nat.testBit_succ, Nat.mul_div_cancel_left _ (by decide)]
theorem tmw_kT {w p r b : Nat} (h1 : 1 ≤ w) (hp : p < 2 ^ w) (hr : r < 2 ^ w) : tmw w p r (kT w p b) = kT w p (tmw w p r b) := by
  rw [tmw_xs h1, tmw_xs h1]
  have hch := ch h1 hp hr
  obtain ⟨v, rfl⟩ : ∃ v, w = v + 1 := ⟨w - 1, by omega⟩
  have e1 : ∀ c, xs (fun j => iT (v + 1) p j r) (2 * b % 2 ^ (v + 1) ^^^ c) (v + 1) = kT (v + 1) p (xs (fun j => iT (v + 1) p j r) b v) ^^^ xs (fun j => iT (v + 1) p j r) c (v + 1) := by
    intro c
    rw [xs_b]
    congr 1
    rw [xs_congr (g := fun j => iT (v + 1) p j r) (c := 2 * b) (v + 1) (fun k hk => ⟨rfl, by rw [Nat.testBit_mod_two_pow, decide_eq_true hk, Bool.true_and]⟩), xs_dbl]
    exact (xs_map (f := fun j => iT (v + 1) p j r) (g := fun x => kT (v + 1) p x) (b := b) kT_0 (fun x y => kT_xor h1) v).symm
  show xs _ (kT (v + 1) p b) (v + 1) = kT (v + 1) p (xs _ b v ^^^ (if b.testBit v = true then iT (v + 1) p v r else 0))
  rw [kT_xor h1]
  have hk : kT (v + 1) p b = if b.testBit v = true then (2 * b % 2 ^ (v + 1)) ^^^ p else 2 * b % 2 ^ (v + 1) := by
    unfold kT
    rw [show v + 1 - 1 = v by omega, tb_div]
    cases b.testBit v with
    | true => rw [if_pos (show true.toNat = 1 from rfl), if_pos rfl]
    | false => rw [if_neg (show ¬ false.toNat = 1 by decide), if_neg (by decide)]
  rw [hk]
  cases b.testBit v with
  | true =>
    rw [if_pos rfl, if_pos rfl, e1, hch]
    rfl
  | false =>
    have e2 := e1 0
    have z : ∀ n, xs (fun j => iT (v + 1) p j r) 0 n = 0 := by
      intro n
      induction n with
      | zero => rfl
      | succ n ih => show xs _ 0 n ^^^ _ = 0; rw [ih, Nat.zero_testBit, if_neg (by decide), Nat.zero_xor]
    rw [Nat.xor_zero, z, Nat.xor_zero] at e2
    rw [if_neg (by decide), if_neg (by decide), e2, kT_0, Nat.xor_zero]
theorem tmw_1 {w p r : Nat} (h1 : 1 ≤ w) : tmw w p r 1 = r := by
  rw [tmw_xs h1]
  have : ∀ n, xs (fun j => iT w p j r) 1 (n + 1) = r := by
    intro n
    induction n with
    | zero => exact Nat.zero_xor r
    | succ n ih =>
      show xs _ 1 (n + 1) ^^^ (if (1 : Nat).testBit (n + 1) = true then _ else 0) = r
      rw [ih, Nat.testBit_succ, show 1 / 2 = 0 from rfl, Nat.zero_testBit, if_neg (by decide), Nat.xor_zero]
  obtain ⟨v, rfl⟩ : ∃ v, w = v + 1 := ⟨w - 1, by omega⟩
  exact this v
theorem tmw_iT {w p r : Nat} (h1 : 1 ≤ w) (hp : p < 2 ^ w) (hr : r < 2 ^ w) : ∀ m, tmw w p r (iT w p m 1) = iT w p m r := by
  intro m
  induction m with
  | zero => exact tmw_1 h1
  | succ m ih => show tmw w p r (kT w p (iT w p m 1)) = kT w p (iT w p m r); rw [tmw_kT h1 hp hr, ih]
theorem pz_iT {w p : Nat} (h1 : 1 ≤ w) (hp : p < 2 ^ w) : ∀ f n r q, n < 2 ^ f → r < 2 ^ w → pz w p f n r (iT w p q 1) = iT w p (q * n) r := by
  have h1w : 1 < 2 ^ w := Nat.one_lt_two_pow (by omega)
  intro f
  induction f with
  | zero =>
    intro n r q hn hr
    have : n = 0 := by omega
    subst this
    rfl
  | succ f ih =>
    intro n r q hn hr
    rw [pz]
    by_cases c : n = 0
    · subst c; rw [if_pos rfl]; rfl
    · rw [if_neg c, tmw_iT h1 hp hr, tmw_iT h1 hp (iT_lt hp h1w q), ← iT_add]
      have hh : n / 2 < 2 ^ f := by rw [Nat.pow_succ] at hn; omega
      by_cases o : n % 2 = 1
      · rw [if_pos o, ih _ _ _ hh (iT_lt hp hr q), ← iT_add]
        congr 1
        have := Nat.div_add_mod n 2
        rw [o] at this
        calc (q + q) * (n / 2) + q = q * (2 * (n / 2) + 1) := by rw [Nat.mul_add, Nat.mul_one, ← Nat.two_mul, Nat.mul_comm 2 q, Nat.mul_assoc]
          _ = q * n := by rw [this]
      · rw [if_neg o, ih _ _ _ hh hr]
        congr 1
        have := Nat.div_add_mod n 2
        calc (q + q) * (n / 2) = q * (2 * (n / 2)) := by rw [← Nat.two_mul, Nat.mul_comm 2 q, Nat.mul_assoc]
          _ = q * n := by rw [show 2 * (n / 2) = n by omega]
theorem powK {w p r n : Nat} (h1 : 1 ≤ w) (h : w ≤ 32) (hp : p < 2 ^ w) (hr : r < 2 ^ w) (hn : n < 2 ^ 31) : q_X1_timesPowerOfZ (nI r) (nI n) (nI w) (nI p) = some (nI (iT w p n r)) := by
  rw [powI h1 h hp hr hn]
  have := pz_iT h1 hp 31 n r 1 hn hr
  rw [Nat.one_mul] at this
  rw [← this]
  rfl

/-! The calls joined and changed. -/
theorem bx (a b : Bool) (n : Nat) : (a ^^ b).toNat * 2 ^ n = a.toNat * 2 ^ n ^^^ b.toNat * 2 ^ n := by
  cases a <;> cases b
  · show 0 * _ = 0 * _ ^^^ 0 * _; rw [Nat.zero_mul]; decide
  · show 1 * _ = 0 * _ ^^^ 1 * _; rw [Nat.zero_mul, Nat.zero_xor]
  · show 1 * _ = 1 * _ ^^^ 0 * _; rw [Nat.zero_mul, Nat.xor_zero]
  · show 0 * _ = 1 * _ ^^^ 1 * _; rw [Nat.zero_mul, Nat.xor_self]
theorem fb_xor {w p r d : Nat} {a b : Bool} (h1 : 1 ≤ w) : fb w p (r ^^^ d) (a ^^ b) = fb w p r a ^^^ fb w p d b := by
  unfold fb
  rw [bx, xor4, kT_xor h1]
theorem f8_xor {w p v u : Nat} (h1 : 1 ≤ w) : ∀ k r d, f8 w p (v ^^^ u) k (r ^^^ d) = f8 w p v k r ^^^ f8 w p u k d := by
  intro k
  induction k with
  | zero => intro r d; rfl
  | succ k ih =>
    intro r d
    show f8 w p (v ^^^ u) k (fb w p (r ^^^ d) ((v ^^^ u).testBit k)) = _
    rw [Nat.testBit_xor, fb_xor h1, ih]
    rfl
theorem mir_xor (a b : Nat) (n : Nat) : mir (a ^^^ b) n = mir a n ^^^ mir b n := by
  apply Nat.eq_of_testBit_eq
  intro i
  rw [Nat.testBit_xor, mir_bit, mir_bit, mir_bit, Nat.testBit_xor]
  cases decide (i < n) <;> rfl
theorem feed_xor {w p mi r d v u : Nat} (h1 : 1 ≤ w) : feed w p mi (r ^^^ d) (v ^^^ u) = feed w p mi r v ^^^ feed w p mi d u := by
  unfold feed
  by_cases c : mi = 0
  · rw [if_pos c, if_pos c, if_pos c, f8_xor h1]
  · rw [if_neg c, if_neg c, if_neg c, mir_xor, f8_xor h1]
theorem f8_0 {w p : Nat} (h1 : 1 ≤ w) : ∀ k d, f8 w p 0 k d = iT w p k d := by
  intro k
  induction k with
  | zero => intro d; rfl
  | succ k ih =>
    intro d
    show f8 w p 0 k (fb w p d ((0 : Nat).testBit k)) = kT w p (iT w p k d)
    have e : fb w p d false = kT w p d := by unfold fb; rw [show false.toNat = 0 from rfl, Nat.zero_mul, Nat.xor_zero]
    rw [Nat.zero_testBit, e, ih]
    exact iT_comm k 1
theorem feed_0 {w p mi d : Nat} (h1 : 1 ≤ w) : feed w p mi d 0 = iT w p 8 d := by
  unfold feed
  have : mir 0 8 = 0 := by decide
  split
  · exact f8_0 h1 8 d
  · rw [this]; exact f8_0 h1 8 d
theorem feed_lin {w p mi r d v : Nat} (h1 : 1 ≤ w) : feed w p mi (r ^^^ d) v = feed w p mi r v ^^^ iT w p 8 d := by
  have := feed_xor (p := p) (mi := mi) (r := r) (d := d) (v := v) (u := 0) h1
  rw [Nat.xor_zero, feed_0 h1] at this
  exact this
theorem reg_lin {w p mi a r d : Nat} {B : Nat → Nat} (h1 : 1 ≤ w) : ∀ n, reg w p mi B a (r ^^^ d) n = reg w p mi B a r n ^^^ iT w p (8 * n) d := by
  intro n
  induction n with
  | zero => rfl
  | succ n ih =>
    show feed w p mi (reg w p mi B a (r ^^^ d) n) (B (a + n)) = feed w p mi (reg w p mi B a r n) (B (a + n)) ^^^ _
    rw [ih, feed_lin h1, ← iT_add, show 8 + 8 * n = 8 * (n + 1) by omega]
theorem reg_app {w p mi a s n : Nat} {B : Nat → Nat} : ∀ m, reg w p mi B a s (n + m) = reg w p mi B (a + n) (reg w p mi B a s n) m := by
  intro m
  induction m with
  | zero => rfl
  | succ m ih =>
    show feed w p mi (reg w p mi B a s (n + m)) (B (a + (n + m))) = feed w p mi (reg w p mi B (a + n) (reg w p mi B a s n) m) (B (a + n + m))
    rw [ih, Nat.add_assoc]
theorem reg_congr {w p mi a s : Nat} {B C : Nat → Nat} : ∀ n, (∀ k, k < n → B (a + k) = C (a + k)) → reg w p mi B a s n = reg w p mi C a s n := by
  intro n
  induction n with
  | zero => intro _; rfl
  | succ n ih =>
    intro h
    show feed w p mi (reg w p mi B a s n) (B (a + n)) = feed w p mi (reg w p mi C a s n) (C (a + n))
    rw [ih (fun k hk => h k (by omega)), h n (by omega)]
/-- two sums become one -/
theorem joinSum {w p s e mi mo n x : Nat} {B : Nat → Nat} {a2 : Nat → Int32} (h1 : 1 ≤ w) (h : w ≤ 32) (hp : p < 2 ^ w) (hs : s < 2 ^ w) (he : e < 2 ^ w) (hmi : mi < 2) (hmo : mo < 2) (hx : x ≤ n) (hn : n ≤ 64) (hB : ∀ k, k < n → B k < 256 ∧ a2 k = nI (B k)) :
    q_X11_sumByJoining (nI x) (nI w) (nI p) (nI s) (nI e) (nI mi) (nI mo) a2 (nI n) = some (lN (outS w mo e (reg w p mi B 0 s n))) := by
  have e1 := sumI h1 h hp hs he hmi hmo (Nat.zero_le x) (show x ≤ 64 by omega) (B := B) (a2 := a2) (fun k hk => hB k (by omega))
  rw [Nat.sub_zero] at e1
  have e1 : q_X1_sumOf 0 (nI x) (nI w) (nI p) (nI s) (nI e) (nI mi) (nI mo) a2 = _ := e1
  have e2 := sumI h1 h hp hs he hmi hmo hx hn (B := B) (a2 := a2) hB
  have hl1 := reg_lt (mi := mi) (B := B) (a := 0) hp hs x
  have hl2 := reg_lt (mi := mi) (B := B) (a := x) hp hs (n - x)
  have hx1 := Nat.xor_lt_two_pow hl1 hs
  unfold q_X11_sumByJoining t_X5_size
  rw [e1, Option.bind_some, e2, Option.bind_some]
  unfold q_X1_sumOfBoth
  rw [backI h hmo hl1 he, Option.bind_some, nI_xor, nI_sub hx, show (8 : Int32) * nI (n - x) = nI (8 * (n - x)) from nI_mul 8 _, powK h1 h hp hx1 (by omega), Option.bind_some, backI h hmo hl2 he, Option.bind_some, nI_xor]
  have er : iT w p (8 * (n - x)) (reg w p mi B 0 s x ^^^ s) ^^^ reg w p mi B x s (n - x) = reg w p mi B 0 s n := by
    have := reg_lin (w := w) (p := p) (mi := mi) (a := x) (r := s) (d := reg w p mi B 0 s x ^^^ s) (B := B) h1 (n - x)
    rw [Nat.xor_comm (iT _ _ _ _), ← this, Nat.xor_comm _ s, ← Nat.xor_assoc, Nat.xor_self, Nat.zero_xor]
    have h3 := reg_app (w := w) (p := p) (mi := mi) (a := 0) (s := s) (n := x) (B := B) (n - x)
    rw [Nat.zero_add, show x + (n - x) = n by omega] at h3
    exact h3.symm
  rw [er, sumR h (reg_lt hp hs n) he hmo]
  rfl
theorem poeT' {k n : Nat} (h : k ≤ n) (hn : n ≤ 64) : q_X11_requirePlaceOrEnd (nI k) (nI n) = some (.inr (), ()) := by
  unfold q_X11_requirePlaceOrEnd t_X5_size
  rw [if_neg (nI_pos (by omega)), if_pos (nI_le h (by omega))]
theorem poeF' {p : Int32} {n : Nat} (h : p.toInt < 0 ∨ ((n + 1 : Nat) : Int) ≤ p.toInt) (hn : n ≤ 64) : q_X11_requirePlaceOrEnd p (nI n) = some (.inl 2, ()) := by
  unfold q_X11_requirePlaceOrEnd t_X5_size
  by_cases c : p < 0
  · rw [if_pos c]
  · rw [if_neg c]
    rw [ltI, i0] at c
    rw [if_neg (by rw [leI, nI_toInt (by omega)]; omega)]
theorem reg_change {w p mi s n x v : Nat} {B : Nat → Nat} (h1 : 1 ≤ w) (hx : x < n) :
    reg w p mi (fun k => if k = x then v else B k) 0 s n = reg w p mi B 0 s n ^^^ iT w p (8 * (n - 1 - x)) (feed w p mi 0 (B x ^^^ v)) := by
  have a1 := reg_app (w := w) (p := p) (mi := mi) (a := 0) (s := s) (n := x + 1) (B := fun k => if k = x then v else B k) (n - 1 - x)
  have a2 := reg_app (w := w) (p := p) (mi := mi) (a := 0) (s := s) (n := x + 1) (B := B) (n - 1 - x)
  rw [show x + 1 + (n - 1 - x) = n by omega] at a1 a2
  rw [a1, a2, reg_congr (B := fun k => if k = x then v else B k) (C := B) (n - 1 - x) (fun k _ => if_neg (by omega))]
  have b : reg w p mi (fun k => if k = x then v else B k) 0 s (x + 1) = reg w p mi B 0 s (x + 1) ^^^ feed w p mi 0 (B x ^^^ v) := by
    show feed w p mi (reg w p mi (fun k => if k = x then v else B k) 0 s x) (if 0 + x = x then v else B (0 + x)) = feed w p mi (reg w p mi B 0 s x) (B (0 + x)) ^^^ _
    rw [reg_congr (B := fun k => if k = x then v else B k) (C := B) x (fun k _ => if_neg (by omega)), Nat.zero_add, if_pos rfl, ← feed_xor h1, Nat.xor_zero, ← Nat.xor_assoc, Nat.xor_self, Nat.zero_xor]
  rw [b, reg_lin h1]

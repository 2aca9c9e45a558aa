/-! The calls joined and changed. -/
theorem bx (a b : Bool) (n : Nat) : (a ^^ b).toNat * 2 ^ n = a.toNat * 2 ^ n ^^^ b.toNat * 2 ^ n := by
  cases a <;> cases b
  · show 0 * _ = 0 * _ ^^^ 0 * _; rw [Nat.zero_mul]; decide
  · show 1 * _ = 0 * _ ^^^ 1 * _; rw [Nat.zero_mul, Nat.zero_xor]
  · show 1 * _ = 1 * _ ^^^ 0 * _; rw [Nat.zero_mul, Nat.xor_zero]
  · show 0 * _ = 1 * _ ^^^ 1 * _; rw [Nat.zero_mul, Nat.xor_self]
theorem fb_xor {w p r d : Nat} {a b : Bool} (h1 : 1 ≤ w) : fb w p (r ^^^ d) (a ^^ b) = fb w p r a ^^^ fb w p d b := by
  unfold fb
  rw [bx, xor4, kT_xor h1]
theorem f8_xor {w p v u : Nat} (h1 : 1 ≤ w) : ∀ k r d, f8 w p (v ^^^ u) k (r ^^^ d) = f8 w p v k r ^^^ f8 w p u k d := by
  intro k
  induction k with
  | zero => intro r d; rfl
  | succ k ih =>
    intro r d
    show f8 w p (v ^^^ u) k (fb w p (r ^^^ d) ((v ^^^ u).testBit k)) = _
    rw [Nat.testBit_xor, fb_xor h1, ih]
    rfl
theorem mir_xor (a b : Nat) (n : Nat) : mir (a ^^^ b) n = mir a n ^^^ mir b n := by
  apply Nat.eq_of_testBit_eq
  intro i
  rw [Nat.testBit_xor, mir_bit, mir_bit, mir_bit, Nat.testBit_xor]
  cases decide (i < n) <;> rfl
theorem feed_xor {w p mi r d v u : Nat} (h1 : 1 ≤ w) : feed w p mi (r ^^^ d) (v ^^^ u) = feed w p mi r v ^^^ feed w p mi d u := by
  unfold feed
  by_cases c : mi = 0
  · rw [if_pos c, if_pos c, if_pos c, f8_xor h1]
  · rw [if_neg c, if_neg c, if_neg c, mir_xor, f8_xor h1]
theorem f8_0 {w p : Nat} (h1 : 1 ≤ w) : ∀ k d, f8 w p 0 k d = iT w p k d := by
  intro k
  induction k with
  | zero => intro d; rfl
  | succ k ih =>
    intro d
    show f8 w p 0 k (fb w p d ((0 : Nat).testBit k)) = kT w p (iT w p k d)
    have e : fb w p d false = kT w p d := by unfold fb; rw [show false.toNat = 0 from rfl, Nat.zero_mul, Nat.xor_zero]
    rw [Nat.zero_testBit, e, ih]
    exact iT_comm k 1
theorem feed_0 {w p mi d : Nat} (h1 : 1 ≤ w) : feed w p mi d 0 = iT w p 8 d := by
  unfold feed
  have : mir 0 8 = 0 := by decide
  split
  · exact f8_0 h1 8 d
  · rw [this]; exact f8_0 h1 8 d
theorem feed_lin {w p mi r d v : Nat} (h1 : 1 ≤ w) : feed w p mi (r ^^^ d) v = feed w p mi r v ^^^ iT w p 8 d := by
  have := feed_xor (p := p) (mi := mi) (r := r) (d := d) (v := v) (u := 0) h1
  rw [Nat.xor_zero, feed_0 h1] at this
  exact this
theorem reg_lin {w p mi a r d : Nat} {B : Nat → Nat} (h1 : 1 ≤ w) : ∀ n, reg w p mi B a (r ^^^ d) n = reg w p mi B a r n ^^^ iT w p (8 * n) d := by
  intro n
  induction n with
  | zero => rfl
  | succ n ih =>
    show feed w p mi (reg w p mi B a (r ^^^ d) n) (B (a + n)) = feed w p mi (reg w p mi B a r n) (B (a + n)) ^^^ _
    rw [ih, feed_lin h1, ← iT_add, show 8 + 8 * n = 8 * (n + 1) by omega]
theorem reg_app {w p mi a s n : Nat} {B : Nat → Nat} : ∀ m, reg w p mi B a s (n + m) = reg w p mi B (a + n) (reg w p mi B a s n) m := by
  intro m
  induction m with
  | zero => rfl
  | succ m ih =>
    show feed w p mi (reg w p mi B a s (n + m)) (B (a + (n + m))) = feed w p mi (reg w p mi B (a + n) (reg w p mi B a s n) m) (B (a + n + m))
    rw [ih, Nat.add_assoc]
theorem reg_congr {w p mi a s : Nat} {B C : Nat → Nat} : ∀ n, (∀ k, k < n → B (a + k) = C (a + k)) → reg w p mi B a s n = reg w p mi C a s n := by
  intro n
  induction n with
  | zero => intro _; rfl
  | succ n ih =>
    intro h
    show feed w p mi (reg w p mi B a s n) (B (a + n)) = feed w p mi (reg w p mi C a s n) (C (a + n))
    rw [ih (fun k hk => h k (by omega)), h n (by omega)]
/-- two sums become one -/
theorem joinSum {w p s e mi mo n x : Nat} {B : Nat → Nat} {a2 : Nat → Int32} (h1 : 1 ≤ w) (h : w ≤ 32) (hp : p < 2 ^ w) (hs : s < 2 ^ w) (he : e < 2 ^ w) (hmi : mi < 2) (hmo : mo < 2) (hx : x ≤ n) (hn : n ≤ 64) (hB : ∀ k, k < n → B k < 256 ∧ a2 k = nI (B k)) :
    q_X11_sumByJoining (nI x) (nI w) (nI p) (nI s) (nI e) (nI mi) (nI mo) a2 (nI n) = some (lN (outS w mo e (reg w p mi B 0 s n))) := by
  have e1 := sumI h1 h hp hs he hmi hmo (Nat.zero_le x) (show x ≤ 64 by omega) (B := B) (a2 := a2) (fun k hk => hB k (by omega))
  rw [Nat.sub_zero] at e1
  have e1 : q_X1_sumOf 0 (nI x) (nI w) (nI p) (nI s) (nI e) (nI mi) (nI mo) a2 = _ := e1
  have e2 := sumI h1 h hp hs he hmi hmo hx hn (B := B) (a2 := a2) hB
  have hl1 := reg_lt (mi := mi) (B := B) (a := 0) hp hs x
  have hl2 := reg_lt (mi := mi) (B := B) (a := x) hp hs (n - x)
  have hx1 := Nat.xor_lt_two_pow hl1 hs
  unfold q_X11_sumByJoining t_X5_size
  rw [e1, Option.bind_some, e2, Option.bind_some]
  unfold q_X1_sumOfBoth
  rw [backI h hmo hl1 he, Option.bind_some, nI_xor, nI_sub hx, show (8 : Int32) * nI (n - x) = nI (8 * (n - x)) from nI_mul 8 _, powK h1 h hp hx1 (by omega), Option.bind_some, backI h hmo hl2 he, Option.bind_some, nI_xor]
  have er : iT w p (8 * (n - x)) (reg w p mi B 0 s x ^^^ s) ^^^ reg w p mi B x s (n - x) = reg w p mi B 0 s n := by
    have := reg_lin (w := w) (p := p) (mi := mi) (a := x) (r := s) (d := reg w p mi B 0 s x ^^^ s) (B := B) h1 (n - x)
    rw [Nat.xor_comm (iT _ _ _ _), ← this, Nat.xor_comm _ s, ← Nat.xor_assoc, Nat.xor_self, Nat.zero_xor]
    have h3 := reg_app (w := w) (p := p) (mi := mi) (a := 0) (s := s) (n := x) (B := B) (n - x)
    rw [Nat.zero_add, show x + (n - x) = n by omega] at h3
    exact h3.symm
  rw [er, sumR h (reg_lt hp hs n) he hmo]
  rfl
theorem poeT' {k n : Nat} (h : k ≤ n) (hn : n ≤ 64) : q_X11_requirePlaceOrEnd (nI k) (nI n) = some (.inr (), ()) := by
  unfold q_X11_requirePlaceOrEnd t_X5_size
  rw [if_neg (nI_pos (by omega)), if_pos (nI_le h (by omega))]
theorem poeF' {p : Int32} {n : Nat} (h : p.toInt < 0 ∨ ((n + 1 : Nat) : Int) ≤ p.toInt) (hn : n ≤ 64) : q_X11_requirePlaceOrEnd p (nI n) = some (.inl 2, ()) := by
  unfold q_X11_requirePlaceOrEnd t_X5_size
  by_cases c : p < 0
  · rw [if_pos c]
  · rw [if_neg c]
    rw [ltI, i0] at c
    rw [if_neg (by rw [leI, nI_toInt (by omega)]; omega)]
theorem M_10 : MS_10 := by
  intro S l4 c1_1 c8_0 c8_1 c8_2 c8_3 c8_4 c8_5 a2 a66 c48_17 c48_18 c48_24 c48_25 c48_26 c48_27 c48_28 a49 a50 c3_1 c3_2 c4_0 a5 a6 c48_20 a52 c7_0 c7_1 c7_2 c7_3 c7_4 c7_5 a10 a11 a53 c17_1 a18 c48_21 a57 c23_4 c24_0 a25 a26 c48_22 a58 a22 x1 x2 x3 x4 x5 hB hP hK h7 hS hD hW hC
  obtain ⟨w, p, s, e, m, h1, h, hp, -, hs, he, hm, rfl, rfl, rfl, rfl, rfl, rfl, rfl, rfl, rfl, rfl, rfl⟩ := hK
  obtain ⟨n, B, hn, rfl, rfl, hb⟩ := hB
  unfold q_case10
  generalize S.2 (l4 + (1 : Int32)).toNatClampNeg = p1
  rcases cls p1 (n := n + 1) (by omega) with ⟨x, hx, rfl⟩ | hF
  · have e1 := joinSum h1 h hp hs he (mi := m % 2) (mo := m / 2) (by omega) (by omega) (show x ≤ n by omega) hn (B := B) (a2 := a2) (fun k hk => ⟨(hb k hk).1, (hb k hk).2.1⟩)
    obtain ⟨g, g1, g2, -⟩ := layM (a49 := a49) (a50 := a50) (Nat.zero_le n) hn
    rw [Nat.sub_zero] at g1 g2
    have g1 : q_X12_lay 0 (nI n) a49 a50 = _ := g1
    have e2 := byKindM (e := e) h1 h hp hs hm (n := n) (a := 0) (B := B) (g := g) (by omega) (fun k hk => ⟨(hb (0 + k) (by omega)).1, by rw [g2 k hk]; exact (hb (0 + k) (by omega)).2.2⟩)
    have e3 : t_X12_in (nI x).toInt64 0 (nI n).toInt64 = 1 := in_T (by rw [tl, nI_toInt (by omega)]; show (0 : Int) ≤ _; omega) (by rw [tl, tl, nI_toInt (by omega), nI_toInt (by omega)]; omega)
    simp only [x1, if_true, q_L_joined, q_X11_joined, poeT' (show x ≤ n by omega) hn, xbnd, e1, Option.bind_some, q_X12_joined, e3, ite10, g1, e2, t_X12_tellsLong, t_X12_thrown, ite00, c0, updL_eq, lgs]
    exact ⟨_, rfl⟩
  · have e3 : t_X12_in p1.toInt64 0 (nI n).toInt64 = 0 := in_F (by rw [tl, tl, nI_toInt (by omega)]; show _ < (0 : Int) ∨ _; omega)
    simp only [x1, if_true, q_L_joined, q_X11_joined, poeF' hF hn, xbnd, Option.bind_some, q_X12_joined, e3, ite10, ite00, t_X12_fails, t_X12_thrown]
    exact ⟨_, rfl⟩
theorem reg_change {w p mi s n x v : Nat} {B : Nat → Nat} (h1 : 1 ≤ w) (hx : x < n) :
    reg w p mi (fun k => if k = x then v else B k) 0 s n = reg w p mi B 0 s n ^^^ iT w p (8 * (n - 1 - x)) (feed w p mi 0 (B x ^^^ v)) := by
  have a1 := reg_app (w := w) (p := p) (mi := mi) (a := 0) (s := s) (n := x + 1) (B := fun k => if k = x then v else B k) (n - 1 - x)
  have a2 := reg_app (w := w) (p := p) (mi := mi) (a := 0) (s := s) (n := x + 1) (B := B) (n - 1 - x)
  rw [show x + 1 + (n - 1 - x) = n by omega] at a1 a2
  rw [a1, a2, reg_congr (B := fun k => if k = x then v else B k) (C := B) (n - 1 - x) (fun k _ => if_neg (by omega))]
  have b : reg w p mi (fun k => if k = x then v else B k) 0 s (x + 1) = reg w p mi B 0 s (x + 1) ^^^ feed w p mi 0 (B x ^^^ v) := by
    show feed w p mi (reg w p mi (fun k => if k = x then v else B k) 0 s x) (if 0 + x = x then v else B (0 + x)) = feed w p mi (reg w p mi B 0 s x) (B (0 + x)) ^^^ _
    rw [reg_congr (B := fun k => if k = x then v else B k) (C := B) x (fun k _ => if_neg (by omega)), Nat.zero_add, if_pos rfl, ← feed_xor h1, Nat.xor_zero, ← Nat.xor_assoc, Nat.xor_self, Nat.zero_xor]
  rw [b, reg_lin h1]
theorem M_11 : MS_11 := by
  intro S l4 c1_1 c8_0 c8_1 c8_2 c8_3 c8_4 c8_5 a2 a66 c48_17 c48_18 c48_24 c48_25 c48_26 c48_27 c48_28 a49 a50 c3_1 c3_2 c4_0 a5 a6 c48_20 a52 c7_0 c7_1 c7_2 c7_3 c7_4 c7_5 a10 a11 a53 c17_1 a18 c48_21 a57 c23_4 c24_0 a25 a26 c48_22 a58 a22 x1 x2 x3 x4 x5 hB hP hK h7 hS hD hW hC
  obtain ⟨w, p, s, e, m, h1, h, hp, -, hs, he, hm, rfl, rfl, rfl, rfl, rfl, rfl, rfl, rfl, rfl, rfl, rfl⟩ := hK
  obtain ⟨n, B, hn, rfl, rfl, hb⟩ := hB
  unfold q_case11
  generalize S.2 (l4 + (1 : Int32)).toNatClampNeg = p1
  generalize S.2 (l4 + (2 : Int32)).toNatClampNeg = p2
  rcases cls p1 (n := n) (by omega) with ⟨x, hx, rfl⟩ | hF
  · rcases cls p2 (n := 256) (by omega) with ⟨v, hv, rfl⟩ | hF2
    · have e1 := sumI h1 h hp hs he (mi := m % 2) (mo := m / 2) (by omega) (by omega) (Nat.zero_le n) hn (B := B) (a2 := a2) (fun k hk => ⟨(hb k hk).1, (hb k hk).2.1⟩)
      rw [Nat.sub_zero] at e1
      have e1 : q_X1_sumOf 0 (nI n) (nI w) (nI p) (nI s) (nI e) (nI (m % 2)) (nI (m / 2)) a2 = _ := e1
      have hl := reg_lt (mi := m % 2) (B := B) (a := 0) hp hs n
      obtain ⟨o1, o2, -⟩ := hb x hx
      have hxv : B x ^^^ v < 256 := Nat.xor_lt_two_pow (n := 8) o1 hv
      have hf := feed_lt (w := w) (p := p) (mi := m % 2) (r := 0) (v := B x ^^^ v) hp (Nat.two_pow_pos w)
      have hi := iT_lt hp hf (8 * (n - 1 - x))
      have e2 : q_X1_sumAfterChange (lN (outS w (m / 2) e (reg w p (m % 2) B 0 s n))) (nI (B x)) (nI v) (nI n - 1 - nI x) (nI w) (nI p) (nI e) (nI (m % 2)) (nI (m / 2)) = some (lN (outS w (m / 2) e (reg w p (m % 2) (fun k => if k = x then v else B k) 0 s n))) := by
        have f1 := fedI (w := w) (p := p) (r := 0) (v := B x ^^^ v) (mi := m % 2) h1 h hp (Nat.two_pow_pos w) hxv (by omega)
        have f1 : q_X1_fed 0 (nI (B x ^^^ v)) (nI w) (nI p) (nI (m % 2)) = _ := f1
        unfold q_X1_sumAfterChange
        rw [nI_xor, f1, Option.bind_some, nI_pred' (by omega), nI_sub (by omega), show (8 : Int32) * nI (n - 1 - x) = nI (8 * (n - 1 - x)) from nI_mul 8 _, powK h1 h hp hf (by omega), Option.bind_some, backI h (by omega) hl he, Option.bind_some, nI_xor, ← reg_change h1 hx, sumR h (reg_lt hp hs n) he (by omega)]
        rfl
      obtain ⟨g, g1, g2, -⟩ := layM (a49 := a49) (a50 := a50) (Nat.zero_le n) hn
      rw [Nat.sub_zero] at g1 g2
      have g1 : q_X12_lay 0 (nI n) a49 a50 = _ := g1
      have e4 := byKindM (e := e) h1 h hp hs hm (n := n) (a := 0) (B := fun k => if k = x then v else B k) (g := upd g x (nI v)) (by omega) (fun k hk => by
        rw [Nat.zero_add]
        by_cases c : k = x
        · subst c; rw [upd_eq, if_pos rfl]; exact ⟨hv, rfl⟩
        · rw [upd_ne c, if_neg c, g2 k hk, Nat.zero_add]; exact ⟨(hb k hk).1, (hb k hk).2.2⟩)
      have e5 : q_X11_changed (nI x) (nI v) (nI n) (nI w) (nI p) (nI s) (nI e) (nI (m % 2)) (nI (m / 2)) a2 = some (.inr (lN (outS w (m / 2) e (reg w p (m % 2) (fun k => if k = x then v else B k) 0 s n))), ()) := by
        unfold q_X11_changed t_X5_size
        rw [rpT hx (by omega), rbT hv, e1, atI (by omega) (by omega), o2]
        simp only [xbnd, Option.bind_some, e2]
      simp only [x1, x2, if_true, q_L_changed, e5, xbnd, Option.bind_some, q_X12_changed, isPT hx (by omega), ibT hv, ite10, g1, xinI (show x < 80 by omega) (by omega), nI_clamp (show x < 2147483648 by omega), e4, t_X12_tellsLong, t_X12_thrown, ite00, c0, updL_eq, lgs]
      exact ⟨_, rfl⟩
    · have e5 : q_X11_changed (nI x) p2 (nI n) (nI w) (nI p) (nI s) (nI e) (nI (m % 2)) (nI (m / 2)) a2 = some (.inl 0, ()) := by
        unfold q_X11_changed
        rw [rpT hx (by omega), rbF hF2]
        rfl
      simp only [x1, x2, if_true, q_L_changed, e5, xbnd, Option.bind_some, q_X12_changed, isPT hx (by omega), ibF hF2, ite10, ite00, t_X12_fails, t_X12_thrown]
      exact ⟨_, rfl⟩
  · have e5 : q_X11_changed p1 p2 (nI n) (nI w) (nI p) (nI s) (nI e) (nI (m % 2)) (nI (m / 2)) a2 = some (.inl 2, ()) := by
      unfold q_X11_changed
      rw [rpF hF (by omega)]
      rfl
    simp only [x1, x2, if_true, q_L_changed, e5, xbnd, Option.bind_some, q_X12_changed, isPF hF (by omega), ite10, ite00, t_X12_fails, t_X12_thrown]
    exact ⟨_, rfl⟩

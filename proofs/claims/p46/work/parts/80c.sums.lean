/-! Sums of spans, of joined rows, behind a change, with bytes of 0 behind: by the class and by the law's division. -/
theorem spanC {a b n : Nat} (hab : a ≤ b) (hb : b ≤ n) (hn : n ≤ 64) : q_X11_requireSpan (nI a) (nI b) (nI n) = some (.inr (), ()) := by
  unfold q_X11_requireSpan
  rw [if_neg (nI_pos (by omega)), if_neg (nI_nlt hab (by omega)), t_X5_size, if_pos (nI_le hb (by omega))]
section SUMS
variable {w p s e m n : Nat} {B : Nat → Nat} {a2 : Nat → Int32}
theorem sumTT {a b : Nat} (h1 : 1 ≤ w) (h : w ≤ 32) (hp : p < 2 ^ w) (hs : s < 2 ^ w) (he : e < 2 ^ w) (hm : m < 4) (hab : a ≤ b) (hb : b ≤ n) (hn : n ≤ 64) (hB : ∀ k, k < n → B k < 256 ∧ a2 k = nI (B k)) :
    q_X11_sum (nI a) (nI b) (nI n) (nI w) (nI p) (nI s) (nI e) (nI (m % 2)) (nI (m / 2)) a2 = some (.inr (lN (outS w (m / 2) e (reg w p (m % 2) B a s (b - a)))), ()) := by
  unfold q_X11_sum
  rw [spanC hab hb hn]
  show (q_X1_sumOf _ _ _ _ _ _ _ _ _).bind _ = _
  rw [sumI h1 h hp hs he (by omega) (by omega) hab (by omega) (fun k hk => hB k (by omega))]
  rfl
theorem libTT {a b : Nat} (hab : a ≤ b) (hb : b ≤ n) (hn : n ≤ 64) (hB : ∀ k, k < n → B k < 256 ∧ a2 k = nI (B k)) :
    q_X11_librarySum (nI a) (nI b) (nI n) a2 = some (.inr (lN (outS 32 1 lE (reg 32 lP 1 B a lE (b - a)))), ()) := by
  unfold q_X11_librarySum
  rw [spanC hab hb hn]
  show (q_X2_sumOf _ _ _).bind _ = _
  rw [libSum hab (by omega) (fun k hk => hB k (by omega))]
  rfl
theorem joinTT {x : Nat} (h1 : 1 ≤ w) (h : w ≤ 32) (hp : p < 2 ^ w) (hs : s < 2 ^ w) (he : e < 2 ^ w) (hm : m < 4) (hx : x ≤ n) (hn : n ≤ 64) (hB : ∀ k, k < n → B k < 256 ∧ a2 k = nI (B k)) :
    q_X11_joined (nI x) (nI n) (nI w) (nI p) (nI s) (nI e) (nI (m % 2)) (nI (m / 2)) a2 = some (.inr (lN (outS w (m / 2) e (reg w p (m % 2) B 0 s n))), ()) := by
  unfold q_X11_joined
  rw [poeT' hx hn]
  show (q_X11_sumByJoining _ _ _ _ _ _ _ _ _).bind _ = _
  rw [joinSum h1 h hp hs he (by omega) (by omega) hx hn hB]
  rfl
theorem changeTT {x v : Nat} (h1 : 1 ≤ w) (h : w ≤ 32) (hp : p < 2 ^ w) (hs : s < 2 ^ w) (he : e < 2 ^ w) (hm : m < 4) (hx : x < n) (hv : v < 256) (hn : n ≤ 64) (hB : ∀ k, k < n → B k < 256 ∧ a2 k = nI (B k)) :
    q_X11_changed (nI x) (nI v) (nI n) (nI w) (nI p) (nI s) (nI e) (nI (m % 2)) (nI (m / 2)) a2 = some (.inr (lN (outS w (m / 2) e (reg w p (m % 2) (fun k => if k = x then v else B k) 0 s n))), ()) := by
  have e1 := sumI h1 h hp hs he (mi := m % 2) (mo := m / 2) (by omega) (by omega) (Nat.zero_le n) hn (B := B) (a2 := a2) hB
  rw [Nat.sub_zero] at e1
  replace e1 : q_X1_sumOf 0 (nI n) (nI w) (nI p) (nI s) (nI e) (nI (m % 2)) (nI (m / 2)) a2 = _ := e1
  have hl := reg_lt (mi := m % 2) (B := B) (a := 0) hp hs n
  obtain ⟨o1, o2⟩ := hB x hx
  have hxv : B x ^^^ v < 256 := Nat.xor_lt_two_pow (n := 8) o1 hv
  have hf := feed_lt (w := w) (p := p) (mi := m % 2) (r := 0) (v := B x ^^^ v) hp (Nat.two_pow_pos w)
  have f1 := fedI (w := w) (p := p) (r := 0) (v := B x ^^^ v) (mi := m % 2) h1 h hp (Nat.two_pow_pos w) hxv (by omega)
  replace f1 : q_X1_fed 0 (nI (B x ^^^ v)) (nI w) (nI p) (nI (m % 2)) = _ := f1
  have e2 : q_X1_sumAfterChange (lN (outS w (m / 2) e (reg w p (m % 2) B 0 s n))) (nI (B x)) (nI v) (nI n - 1 - nI x) (nI w) (nI p) (nI e) (nI (m % 2)) (nI (m / 2)) = some (lN (outS w (m / 2) e (reg w p (m % 2) (fun k => if k = x then v else B k) 0 s n))) := by
    unfold q_X1_sumAfterChange
    rw [nI_xor, f1, Option.bind_some, nI_pred' (by omega), nI_sub (by omega), show (8 : Int32) * nI (n - 1 - x) = nI (8 * (n - 1 - x)) from nI_mul 8 _, powK h1 h hp hf (by omega), Option.bind_some, backI h (by omega) hl he, Option.bind_some, nI_xor, ← reg_change h1 hx, sumR h (reg_lt hp hs n) he (by omega)]
    rfl
  unfold q_X11_changed
  rw [rpT hx (by omega)]
  show xbnd (q_X11_requireByte _) _ _ = _
  rw [rbT hv]
  show (q_X1_sumOf _ _ _ _ _ _ _ _ _).bind _ = _
  rw [t_X5_size, e1, Option.bind_some, atI (by omega) (by omega), o2, e2]
  rfl
theorem zerosTT {z : Nat} (h1 : 1 ≤ w) (h : w ≤ 32) (hp : p < 2 ^ w) (hs : s < 2 ^ w) (he : e < 2 ^ w) (hm : m < 4) (hz : z ≤ 1000000) (hn : n ≤ 64) (hB : ∀ k, k < n → B k < 256 ∧ a2 k = nI (B k)) :
    q_X11_zeros (nI z) (nI n) (nI w) (nI p) (nI s) (nI e) (nI (m % 2)) (nI (m / 2)) a2 = some (.inr (lN (outS w (m / 2) e (iT w p (8 * z) (reg w p (m % 2) B 0 s n)))), ()) := by
  have e1 := sumI h1 h hp hs he (mi := m % 2) (mo := m / 2) (by omega) (by omega) (Nat.zero_le n) hn (B := B) (a2 := a2) hB
  rw [Nat.sub_zero] at e1
  replace e1 : q_X1_sumOf 0 (nI n) (nI w) (nI p) (nI s) (nI e) (nI (m % 2)) (nI (m / 2)) a2 = _ := e1
  have hl := reg_lt (mi := m % 2) (B := B) (a := 0) hp hs n
  have e3 := backI (mo := m / 2) h (by omega) hl he
  have e4 := powK h1 h hp hl (show 8 * z < 2 ^ 31 by omega)
  have e5 := sumR (mo := m / 2) h (iT_lt hp hl (8 * z)) he (by omega)
  unfold q_X11_zeros
  rw [if_neg (nI_pos (by omega)), if_pos (show nI z ≤ (1000000 : Int32) from nI_le (b := 1000000) hz (by decide)), t_X5_size, e1, Option.bind_some]
  unfold q_X1_sumAfterZeros
  rw [e3, Option.bind_some, show (8 : Int32) * nI z = nI (8 * z) from nI_mul 8 _, e4, Option.bind_some, e5]
  rfl
theorem reg_zeros {a : Nat} (h1 : 1 ≤ w) {mi : Nat} {C : Nat → Nat} (hC : ∀ k, C (a + k) = 0) : ∀ z r, reg w p mi C a r z = iT w p (8 * z) r := by
  intro z
  induction z with
  | zero => intro r; rfl
  | succ z ih =>
    intro r
    show feed w p mi (reg w p mi C a r z) (C (a + z)) = _
    rw [hC z, feed_0 h1, ih r, show 8 * (z + 1) = 8 + 8 * z by omega, iT_add]
end SUMS
theorem xbnd_r {α β γ : Type} {v : α} {c : γ} {fe : Nat → γ → Option β} {fv : α → γ → Option β} : xbnd (some (.inr v, c)) fe fv = fv v c := rfl
theorem xbnd_l {α β γ : Type} {e : Nat} {c : γ} {fe : Nat → γ → Option β} {fv : α → γ → Option β} : xbnd (some (.inl e, c)) fe fv = fe e c := rfl
theorem if_lg {α : Type} {x : Int64} {a b : α} : (if ¬ (lg_cmp x x) = (0 : Int32) then a else b) = b := if_neg (fun z => z (lgs _))
theorem if_lg' {α : Type} {x : Int64} {a b : α} : (if (lg_cmp x x) = (0 : Int32) then a else b) = a := if_pos (lgs _)
section ARE
variable {w p s e m n : Nat} {B : Nat → Nat} {a2 a49 : Nat → Int32} {S : Nat × (Nat → Int32)}
/-- by the told kind -/
theorem ownSum {a b z : Nat} (h1 : 1 ≤ w) (h : w ≤ 32) (hp : p < 2 ^ w) (hs : s < 2 ^ w) (he : e < 2 ^ w) (hm : m < 4) (hab : a ≤ b) (hb : b ≤ n) (hn : n ≤ 64) (hz : z ≤ 40) (hB : ∀ k, k < n → B k < 256 ∧ a49 k = nI (B k)) :
    q_L_sumOf (nI a) (nI b) (nI z) 0 (nI w) (nI m) (lN p) (lN s) (lN e) a49 = some (lN (outS w (m / 2) e (iT w p (8 * z) (reg w p (m % 2) B a s (b - a))))) := by
  have key := sumOfT (x4 := 0) (c2 := nI w) (c3 := nI m) (c4 := lN p) (c5 := lN s) (c6 := lN e) (B := B) (a49 := a49) h1 h hp hs he hm hab (show b ≤ 64 by omega) hz rfl rfl rfl rfl rfl (fun k hk => hB k (by omega))
  rw [reg_app, reg_congr (C := B) (b - a) (fun k hk => if_pos (by omega)), reg_zeros h1 (fun k => if_neg (by omega))] at key
  exact key
theorem ownSum0 {a b : Nat} (h1 : 1 ≤ w) (h : w ≤ 32) (hp : p < 2 ^ w) (hs : s < 2 ^ w) (he : e < 2 ^ w) (hm : m < 4) (hab : a ≤ b) (hb : b ≤ n) (hn : n ≤ 64) (hB : ∀ k, k < n → B k < 256 ∧ a49 k = nI (B k)) :
    q_L_sumOf (nI a) (nI b) 0 0 (nI w) (nI m) (lN p) (lN s) (lN e) a49 = some (lN (outS w (m / 2) e (reg w p (m % 2) B a s (b - a)))) :=
  ownSum (z := 0) h1 h hp hs he hm hab hb hn (by omega) hB
/-- by the library's -/
theorem libOwn {a b : Nat} {c2 c3 : Int32} {c4 c5 c6 : Int64} (hab : a ≤ b) (hb : b ≤ n) (hn : n ≤ 64) (hB : ∀ k, k < n → B k < 256 ∧ a49 k = nI (B k)) :
    q_L_sumOf (nI a) (nI b) 0 1 c2 c3 c4 c5 c6 a49 = some (lN (outS 32 1 lE (reg 32 lP 1 B a lE (b - a)))) := by
  have key := sumOfT (z := 0) (w := 32) (p := lP) (s := lE) (e := lE) (m := 3) (x4 := 1) (c2 := c2) (c3 := c3) (c4 := c4) (c5 := c5) (c6 := c6) (B := B) (a49 := a49) (by omega) (by omega) (by decide) (by decide) (by decide) (by omega) hab (show b ≤ 64 by omega) (by omega) (if_neg (by decide)) (if_neg (by decide)) (if_neg (by decide)) (if_neg (by decide)) (if_neg (by decide)) (fun k hk => hB k (by omega))
  rw [Nat.add_zero, reg_congr (C := B) (b - a) (fun k hk => if_pos (by omega))] at key
  exact key
theorem areSums2 (hS : S.1 ≤ 260) (h1 : 1 ≤ w) (h : w ≤ 32) (hp : p < 2 ^ w) (hs : s < 2 ^ w) (he : e < 2 ^ w) (hm : m < 4) (hn : n ≤ 64) (hB : ∀ k, k < n → B k < 256 ∧ a2 k = nI (B k) ∧ a49 k = nI (B k)) :
    q_L_areSums_L2 S (nI n) (nI w) (nI m) (lN p) (lN s) (lN e) (nI n) a2 a49 (nI w) (nI p) (nI s) (nI e) (nI (m % 2)) (nI (m / 2)) 5 0 = some 4 := by
  have hB2 : ∀ k, k < n → B k < 256 ∧ a2 k = nI (B k) := fun k hk => ⟨(hB k hk).1, (hB k hk).2.1⟩
  have hB3 : ∀ k, k < n → B k < 256 ∧ a49 k = nI (B k) := fun k hk => ⟨(hB k hk).1, (hB k hk).2.2⟩
  obtain ⟨r, hr, g⟩ := loop_inv (F := fun f (y : Int32) => q_L_areSums_L2 S (nI n) (nI w) (nI m) (lN p) (lN s) (lN e) (nI n) a2 a49 (nI w) (nI p) (nI s) (nI e) (nI (m % 2)) (nI (m / 2)) f y)
    (fun k y => y = nI k) (fun r => r = 4) 4
    (fun f y hy => by
      subst hy
      exact ⟨_, by show q_L_areSums_L2 _ _ _ _ _ _ _ _ _ _ _ _ _ _ _ _ (f + 1) (nI 4) = _; rw [q_L_areSums_L2, if_pos (by decide)]; rfl, rfl⟩)
    (fun f k y hk hy => by
      subst hy
      refine Or.inr ⟨nI (k + 1), ?_, rfl⟩
      show q_L_areSums_L2 _ _ _ _ _ _ _ _ _ _ _ _ _ _ _ _ (f + 1) (nI k) = q_L_areSums_L2 _ _ _ _ _ _ _ _ _ _ _ _ _ _ _ _ f (nI (k + 1))
      obtain ⟨a, ha, e1⟩ := someT hS (i := 90 + k) (n := n + 1) (by omega) (by omega) (by omega)
      obtain ⟨d, hd, e2⟩ := someT hS (i := 94 + k) (n := n - a + 1) (by omega) (by omega) (by omega)
      rw [q_L_areSums_L2, if_neg (show ¬ (4 : Int32) ≤ nI k from nI_ge (b := 4) hk (by decide)), show (90 : Int32) = nI 90 from rfl, nI_add, nI_1, e1, Option.bind_some, show (94 : Int32) = nI 94 from rfl, nI_add, nI_sub (by omega), nI_1, e2, Option.bind_some, nI_add,
        libTT (show a ≤ a + d by omega) (show a + d ≤ n by omega) hn hB2, xbnd_r, libOwn (show a ≤ a + d by omega) (show a + d ≤ n by omega) hn hB3, Option.bind_some, if_lg, sumTT h1 h hp hs he hm (show a ≤ a + d by omega) (show a + d ≤ n by omega) hn hB2, xbnd_r, ownSum0 h1 h hp hs he hm (show a ≤ a + d by omega) (show a + d ≤ n by omega) hn hB3, Option.bind_some, if_lg', nI_1])
    5 0 (nI 0) rfl (Nat.zero_le _) (by omega)
  subst g
  exact hr
theorem areSums112 (h1 : 1 ≤ w) (h : w ≤ 32) (hp : p < 2 ^ w) (hs : s < 2 ^ w) (he : e < 2 ^ w) (hm : m < 4) (hn : n ≤ 64) (hB : ∀ k, k < n → B k < 256 ∧ a2 k = nI (B k)) :
    ∃ r, q_L_areSums_L112 (lN (outS w (m / 2) e (reg w p (m % 2) B 0 s n))) (nI n) (nI n) a2 (nI w) (nI p) (nI s) (nI e) (nI (m % 2)) (nI (m / 2)) 10000 0 = some r := by
  obtain ⟨r, hr, -⟩ := loop_inv (F := fun f (y : Int32) => q_L_areSums_L112 (lN (outS w (m / 2) e (reg w p (m % 2) B 0 s n))) (nI n) (nI n) a2 (nI w) (nI p) (nI s) (nI e) (nI (m % 2)) (nI (m / 2)) f y)
    (fun k y => y = nI k) (fun _ => True) (n + 1)
    (fun f y hy => by
      subst hy
      exact ⟨_, by show q_L_areSums_L112 _ _ _ _ _ _ _ _ _ _ (f + 1) (nI (n + 1)) = _; rw [q_L_areSums_L112, if_pos (nI_lt (by omega) (by omega))], trivial⟩)
    (fun f k y hk hy => by
      subst hy
      refine Or.inr ⟨nI (k + 1), ?_, rfl⟩
      show q_L_areSums_L112 _ _ _ _ _ _ _ _ _ _ (f + 1) (nI k) = q_L_areSums_L112 _ _ _ _ _ _ _ _ _ _ f (nI (k + 1))
      rw [q_L_areSums_L112, if_neg (nI_nlt (by omega) (by omega)), joinTT h1 h hp hs he hm (show k ≤ n by omega) hn hB, xbnd_r, if_lg', nI_1])
    10000 0 (nI 0) rfl (Nat.zero_le _) (by omega)
  exact ⟨r, hr⟩
theorem upd_back {f : Nat → Int32} {k : Nat} {v : Int32} : upd (upd f k v) k (f k) = f := by
  funext j
  by_cases c : j = k
  · subst c; rw [upd_eq]
  · rw [upd_ne c, upd_ne c]
theorem areSumsT (hS : S.1 ≤ 260) (h1 : 1 ≤ w) (h : w ≤ 32) (hp : p < 2 ^ w) (hs : s < 2 ^ w) (he : e < 2 ^ w) (hm : m < 4) (h0 : 1 ≤ n) (hn : n ≤ 64) (hB : ∀ k, k < n → B k < 256 ∧ a2 k = nI (B k) ∧ a49 k = nI (B k)) :
    q_L_areSums S (nI n) (nI w) (nI m) (lN p) (lN s) (lN e) (nI n) a2 a49 (nI w) (nI p) (nI s) (nI e) (nI (m % 2)) (nI (m / 2)) = some (1, a49) := by
  have hB2 : ∀ k, k < n → B k < 256 ∧ a2 k = nI (B k) := fun k hk => ⟨(hB k hk).1, (hB k hk).2.1⟩
  have hB3 : ∀ k, k < n → B k < 256 ∧ a49 k = nI (B k) := fun k hk => ⟨(hB k hk).1, (hB k hk).2.2⟩
  obtain ⟨r, hr⟩ := areSums112 h1 h hp hs he hm hn hB2
  obtain ⟨x, hx, e1⟩ := someT hS (i := 98) (n := n) (by omega) (by omega) (by omega)
  obtain ⟨v, hv, e2⟩ := someT hS (i := 99) (n := 256) (by omega) (by omega) (by omega)
  obtain ⟨z, hz, e3⟩ := someT hS (i := 100) (n := 9) (by omega) (by omega) (by omega)
  replace e1 : q_L_some S 98 (nI n) = some (nI x) := e1
  replace e2 : q_L_some S 99 256 = some (nI v) := e2
  replace e3 : q_L_some S 100 9 = some (nI z) := e3
  have o1 := ownSum0 (e := e) h1 h hp hs he hm (Nat.zero_le n) (Nat.le_refl n) hn hB3
  rw [Nat.sub_zero] at o1
  replace o1 : q_L_sumOf 0 (nI n) 0 0 (nI w) (nI m) (lN p) (lN s) (lN e) a49 = _ := o1
  have hC : ∀ k, k < n → (fun k => if k = x then v else B k) k < 256 ∧ upd a49 x (nI v) k = nI ((fun k => if k = x then v else B k) k) := by
    intro k hk
    show (if k = x then v else B k) < 256 ∧ _ = nI (if k = x then v else B k)
    by_cases c : k = x
    · subst c
      rw [if_pos rfl, upd_eq]
      exact ⟨hv, rfl⟩
    · rw [if_neg c, upd_ne c]
      exact hB3 k hk
  have o2 := ownSum0 (e := e) (B := fun k => if k = x then v else B k) h1 h hp hs he hm (Nat.zero_le n) (Nat.le_refl n) hn hC
  rw [Nat.sub_zero] at o2
  replace o2 : q_L_sumOf 0 (nI n) 0 0 (nI w) (nI m) (lN p) (lN s) (lN e) (upd a49 x (nI v)) = _ := o2
  have o3 := ownSum (z := z) (e := e) h1 h hp hs he hm (Nat.zero_le n) (Nat.le_refl n) hn (by omega) hB3
  rw [Nat.sub_zero] at o3
  replace o3 : q_L_sumOf 0 (nI n) (nI z) 0 (nI w) (nI m) (lN p) (lN s) (lN e) a49 = _ := o3
  have o4 := sumTT (e := e) h1 h hp hs he hm (Nat.zero_le n) (Nat.le_refl n) hn hB2
  rw [Nat.sub_zero] at o4
  replace o4 : q_X11_sum 0 (nI n) (nI n) (nI w) (nI p) (nI s) (nI e) (nI (m % 2)) (nI (m / 2)) a2 = _ := o4
  unfold q_L_areSums
  rw [areSums2 hS h1 h hp hs he hm hn hB, Option.bind_some, o1, Option.bind_some, hr, Option.bind_some, e1, Option.bind_some, e2, Option.bind_some, if_pos (xinI (by omega) (by omega)), if_pos (xinI (by omega) (by omega)), changeTT h1 h hp hs he hm hx hv hn hB2, xbnd_r, nI_clamp (by omega), o2, Option.bind_some, if_pos (xinI (by omega) (by omega)), e3, Option.bind_some, if_lg, if_neg (show ¬ (1 : Int32) = 0 by decide), zerosTT h1 h hp hs he hm (show z ≤ 1000000 by omega) hn hB2, xbnd_r, upd_back, o3, Option.bind_some, if_lg, o4, xbnd_r, if_lg]
end ARE

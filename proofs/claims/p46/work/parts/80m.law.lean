/-! The law's answer. -/
theorem typeT {n m x p q : Nat} {a6 a5 a2 : Nat → Int32} (h : n + m ≤ 64) (h1 : 1 ≤ m) (h4 : m ≤ 4) (hx : x < 4294967296) (hp : p < 10) (hq : q ≤ 10) :
    ∃ a6' a5' g, q_X11_type (nI x) (nI m) (nI n) (nI p) (nI q) (nI 64) a6 a5 a2 = some (.inr (nI (n + m)), (nI (n + m), nI ((p + 1) % 10), nI (min (q + 1) 10), a6', a5', g)) ∧ ∀ t, g t = if n ≤ t ∧ t < n + m then nI (bw x (t - n)) else a2 t := by
  obtain ⟨a6', a5', k1', -, -⟩ := keepT (a6 := a6) (a5 := a5) (a2 := a2) hp hq (show n ≤ 64 by omega)
  obtain ⟨r, r1, r2, r3⟩ := typeC (w := nI x) (f := a2) h
  replace r1 : q_X11_type_L57 (nI x) (nI m) 10000 0 (nI n) a2 = some r := r1
  refine ⟨a6', a5', r.2.2, ?_, fun t => ?_⟩
  · unfold q_X11_type
    rw [if_neg (show ¬ nI m < (1 : Int32) by rw [ltI, nI_toInt (by omega), show (1 : Int32).toInt = 1 from rfl]; omega), if_pos (show nI m ≤ (4 : Int32) from nI_le (b := 4) h4 (by decide)), show t_X5_size (nI n) = nI n from rfl, show (64 : Int32) - nI m = nI (64 - m) from nI_sub (a := 64) (by omega), if_pos (nI_le (by omega) (by omega)), k1', Option.bind_some, r1, Option.bind_some, r2]
    rfl
  · rw [r3]
    by_cases c : n ≤ t ∧ t < n + m
    · rw [if_pos c, if_pos c]
      exact bwC hx (by omega)
    · rw [if_neg c, if_neg c]
def TY (lo : Nat) (z : Int32 × (Nat → Int32) × Int32 × Int32 × Int32 × (Nat → Int32) × (Nat → Int32) × (Nat → Int32)) : Prop :=
  ∃ (n p q : Nat) (B : Nat → Nat), lo ≤ n ∧ n ≤ 40 ∧ p < 10 ∧ q ≤ 10 ∧ z.1 = nI n ∧ z.2.2.1 = nI n ∧ z.2.2.2.1 = nI p ∧ z.2.2.2.2.1 = nI q ∧ ∀ k, k < n → B k < 256 ∧ z.2.2.2.2.2.2.2 k = nI (B k) ∧ z.2.1 k = nI (B k)
section LAW
variable {S : Nat × (Nat → Int32)}
theorem law65 {n m x : Nat} {a49 : Nat → Int32} (h : n + m ≤ 64) (h4 : m ≤ 4) (hx : x < 4294967296) :
    Sat (q_L_law_L65 (nI m) (nI x) 10000 0 (nI n) a49) fun z => z.2.1 = nI (n + m) ∧ ∀ t, z.2.2 t = if n ≤ t ∧ t < n + m then nI (bw x (t - n)) else a49 t := by
  obtain ⟨r, hr, g⟩ := loop_inv (F := fun f (y : Int32 × Int32 × (Nat → Int32)) => q_L_law_L65 (nI m) (nI x) f y.1 y.2.1 y.2.2)
    (fun j y => y.1 = nI j ∧ y.2.1 = nI (n + j) ∧ ∀ t, y.2.2 t = if n ≤ t ∧ t < n + j then nI (bw x (t - n)) else a49 t)
    (fun z => z.2.1 = nI (n + m) ∧ ∀ t, z.2.2 t = if n ≤ t ∧ t < n + m then nI (bw x (t - n)) else a49 t) m
    (fun f y hy => by
      obtain ⟨l, c, v⟩ := y
      obtain ⟨e1, e2, e3⟩ := hy
      replace e1 : l = nI m := e1
      subst e1
      exact ⟨_, by show q_L_law_L65 _ _ (f + 1) (nI m) c v = _; rw [q_L_law_L65, if_pos (nI_le (Nat.le_refl _) (by omega))], e2, e3⟩)
    (fun f j y hj hy => by
      obtain ⟨l, c, v⟩ := y
      obtain ⟨e1, e2, e3⟩ := hy
      replace e1 : l = nI j := e1
      replace e2 : c = nI (n + j) := e2
      replace e3 : ∀ t, v t = if n ≤ t ∧ t < n + j then nI (bw x (t - n)) else a49 t := e3
      subst e1; subst e2
      have eb : (xus (nI x) ((24 : Int32) - (8 : Int32) * nI j)) &&& 255 = nI (bw x j) := bwC hx (by omega)
      refine Or.inr ⟨(nI (j + 1), nI (n + j + 1), upd v (n + j) (nI (bw x j))), ?_, rfl, rfl, fun t => ?_⟩
      · show q_L_law_L65 _ _ (f + 1) (nI j) (nI (n + j)) v = q_L_law_L65 _ _ f (nI (j + 1)) (nI (n + j + 1)) _
        rw [q_L_law_L65, if_neg (nI_ge hj (by omega)), if_pos (xinI (by omega) (by omega)), nI_clamp (by omega), eb, nI_1, nI_1]
      · show upd v (n + j) _ t = _
        by_cases e : t = n + j
        · subst e
          rw [upd_eq, if_pos (by omega), Nat.add_sub_cancel_left]
        · rw [upd_ne e, e3]
          by_cases c : n ≤ t ∧ t < n + j
          · rw [if_pos c, if_pos (by omega)]
          · rw [if_neg c, if_neg (by omega)])
    10000 0 (nI 0, nI n, a49) ⟨rfl, rfl, fun t => by show a49 t = _; rw [if_neg (by omega)]⟩ (Nat.zero_le _) (by omega)
  exact ⟨r, hr, g⟩
theorem law29 {wd : Nat} (hS : S.1 ≤ 260) (hw : wd ≤ 10) :
    ∀ t k f n p q (B : Nat → Nat) (a49 a6 a5 a2 : Nat → Int32), k + t = wd → t < f → n ≤ 4 * k → p < 10 → q ≤ 10 → (∀ k, k < n → B k < 256 ∧ a2 k = nI (B k) ∧ a49 k = nI (B k)) →
      Sat (q_L_law_L29 S (nI wd) (nI 64) f (nI k) (nI n) a49 (nI n) (nI p) (nI q) a6 a5 a2) fun z => TY 0 z.2 := by
  intro t
  induction t with
  | zero =>
    intro k f n p q B a49 a6 a5 a2 hk hf hn hp hq hB
    obtain ⟨f, rfl⟩ : ∃ g, f = g + 1 := ⟨f - 1, by omega⟩
    rw [q_L_law_L29]
    exact sP (nI_le (by omega) (by omega)) ⟨_, rfl, n, p, q, B, by omega, by omega, hp, hq, rfl, rfl, rfl, rfl, hB⟩
  | succ t ih =>
    intro k f n p q B a49 a6 a5 a2 hk hf hn hp hq hB
    obtain ⟨f, rfl⟩ : ∃ g, f = g + 1 := ⟨f - 1, by omega⟩
    obtain ⟨v, hv, e1⟩ := someT hS (i := 1 + 2 * k) (n := 4) (by omega) (by omega) (by omega)
    obtain ⟨x, e2⟩ := cellT hS (i := 2 + 2 * k) (by omega)
    obtain ⟨x, hx, rfl⟩ := nI_any x
    obtain ⟨m, hm⟩ : ∃ m, m = 1 + v := ⟨_, rfl⟩
    have em : (1 : Int32) + nI v = nI m := by rw [k1, nI_add, hm]
    have ek1 : (1 : Int32) + (2 : Int32) * nI k = nI (1 + 2 * k) := by rw [k1, k2, nI_mul, nI_add]
    have ek2 : (2 : Int32) + (2 : Int32) * nI k = nI (2 + 2 * k) := by rw [k2, nI_mul, nI_add]
    obtain ⟨a6', a5', g, f1, f2⟩ := typeT (a6 := a6) (a5 := a5) (a2 := a2) (show n + m ≤ 64 by omega) (show 1 ≤ m by omega) (by omega) hx hp hq
    rw [q_L_law_L29, ek1, ek2, nI_1]
    refine sN (nI_ge (by omega) (by omega)) ?_
    refine se (x := nI v) e1 ?_
    refine se (x := nI x) e2 ?_
    rw [em]
    refine sb (law65 (show n + m ≤ 64 by omega) (by omega) hx) ?_
    rintro ⟨l, c, b⟩ ⟨r1, r2⟩
    replace r1 : c = nI (n + m) := r1
    replace r2 : ∀ t, b t = if n ≤ t ∧ t < n + m then nI (bw x (t - n)) else a49 t := r2
    subst r1
    refine sxe f1 ?_
    refine sP rfl ?_
    refine ih (k + 1) f (n + m) _ _ (fun t => if n ≤ t ∧ t < n + m then bw x (t - n) else B t) b a6' a5' g (by omega) (by omega) (by omega) (by omega) (by omega) (fun j hj => ?_)
    show (if n ≤ j ∧ j < n + m then bw x (j - n) else B j) < 256 ∧ g j = nI (if n ≤ j ∧ j < n + m then bw x (j - n) else B j) ∧ b j = nI (if n ≤ j ∧ j < n + m then bw x (j - n) else B j)
    rw [f2, r2]
    by_cases c : n ≤ j ∧ j < n + m
    · rw [if_pos c, if_pos c, if_pos c]
      exact ⟨bw_lt _ _, rfl, rfl⟩
    · rw [if_neg c, if_neg c, if_neg c]
      exact hB j (by omega)
theorem law135 : ∀ t n f p q (B : Nat → Nat) (a49 a6 a5 a2 : Nat → Int32), 4 - n = t → t < f → n ≤ 40 → p < 10 → q ≤ 10 → (∀ k, k < n → B k < 256 ∧ a2 k = nI (B k) ∧ a49 k = nI (B k)) →
      Sat (q_L_law_L135 (nI 64) f (nI n) a49 (nI n) (nI p) (nI q) a6 a5 a2) fun z => TY 4 z := by
  intro t
  induction t with
  | zero =>
    intro n f p q B a49 a6 a5 a2 ht hf hn hp hq hB
    obtain ⟨f, rfl⟩ : ∃ g, f = g + 1 := ⟨f - 1, by omega⟩
    rw [q_L_law_L135]
    exact sP (show (4 : Int32) ≤ nI n from nI_le (a := 4) (by omega) (by omega)) ⟨_, rfl, n, p, q, B, by omega, hn, hp, hq, rfl, rfl, rfl, rfl, hB⟩
  | succ t ih =>
    intro n f p q B a49 a6 a5 a2 ht hf hn hp hq hB
    obtain ⟨f, rfl⟩ : ∃ g, f = g + 1 := ⟨f - 1, by omega⟩
    have ex : (nI (n + 1) - (1 : Int32)) <<< ((24 : Int32) &&& 31) = nI (n * 2 ^ 24) := by
      rw [nI_pred' (by omega), Nat.add_sub_cancel, show (24 : Int32) = nI 24 from rfl, nI_shl n (by omega)]
    obtain ⟨a6', a5', g, f1, f2⟩ := typeT (x := n * 2 ^ 24) (m := 1) (a6 := a6) (a5 := a5) (a2 := a2) (show n + 1 ≤ 64 by omega) (by omega) (by omega) (by omega) hp hq
    have eb : bw (n * 2 ^ 24) 0 = n := by
      unfold bw
      show n * 2 ^ 24 / 2 ^ 24 % 256 = n
      omega
    rw [q_L_law_L135, nI_1, ex]
    refine sN (show ¬ (4 : Int32) ≤ nI n from nI_ge (b := 4) (by omega) (by decide)) ?_
    refine sP (xinI (by omega) (by omega)) ?_
    refine sxe f1 ?_
    refine sP rfl ?_
    rw [nI_clamp (by omega)]
    refine ih (n + 1) f _ _ (fun t => if t = n then n else B t) (upd a49 n (nI n)) a6' a5' g (by omega) (by omega) (by omega) (by omega) (by omega) (fun j hj => ?_)
    show (if j = n then n else B j) < 256 ∧ g j = nI (if j = n then n else B j) ∧ upd a49 n (nI n) j = nI (if j = n then n else B j)
    rw [f2]
    by_cases c : j = n
    · subst c
      rw [if_pos rfl, if_pos (by omega), upd_eq, Nat.sub_self, eb]
      exact ⟨by omega, rfl, rfl⟩
    · rw [if_neg c, if_neg (by omega), upd_ne c]
      exact hB j (by omega)
theorem nIlE : nI lE = (-1 : Int32) := by decide
theorem areSumsL {n : Nat} {B : Nat → Nat} {a2 a49 : Nat → Int32} (hS : S.1 ≤ 260) (h0 : 1 ≤ n) (hn : n ≤ 64) (hB : ∀ k, k < n → B k < 256 ∧ a2 k = nI (B k) ∧ a49 k = nI (B k)) :
    q_L_areSums S (nI n) 32 3 517762881 4294967295 4294967295 (nI n) a2 a49 32 517762881 (-1) (-1) 1 1 = some (1, a49) := by
  have key := areSumsT (w := 32) (p := lP) (s := lE) (e := lE) (m := 3) hS (by omega) (by omega) (by decide) (by decide) (by decide) (by omega) h0 hn hB
  rw [nIlE] at key
  exact key
theorem sumL {n : Nat} {B : Nat → Nat} {a2 : Nat → Int32} (hn : n ≤ 64) (hB : ∀ k, k < n → B k < 256 ∧ a2 k = nI (B k)) :
    q_X11_sum 0 (nI n) (nI n) 32 517762881 (-1) (-1) 1 1 a2 = some (.inr (lN (outS 32 1 lE (reg 32 lP 1 B 0 lE n))), ()) := by
  have key := sumTT (w := 32) (p := lP) (s := lE) (e := lE) (m := 3) (by omega) (by omega) (by decide) (by decide) (by decide) (by omega) (Nat.zero_le n) (Nat.le_refl n) hn hB
  rw [nIlE, Nat.sub_zero] at key
  exact key
theorem isSoundT {n w p s e m d : Nat} {B D : Nat → Nat} {a2 a18 a22 a21 : Nat → Int32} {c20 : Int32} (h1 : 1 ≤ w) (h : w ≤ 32) (hp : p < 2 ^ w) (hs : s < 2 ^ w) (he : e < 2 ^ w) (hm : m < 4) (hn : n ≤ 64) (hB : ∀ k, k < n → B k < 256 ∧ a2 k = nI (B k)) (hd : d ≤ 18) (hC : ICo a22) (hD : ∀ k, k < d → D k < 10 ∧ a18 k = nI (D k)) :
    ∃ c', q_X11_isSound (nI n) a2 32 517762881 (-1) (-1) 1 1 (nI w) (nI p) (nI s) (nI e) (nI (m % 2)) (nI (m / 2)) (nI d) a18 a22 c20 a21 = some (1, c') := by
  have e1 := libSum (Nat.zero_le n) hn (B := B) (a2 := a2) hB
  rw [Nat.sub_zero] at e1
  replace e1 : q_X2_sumOf 0 (nI n) a2 = _ := e1
  have e2 := lib7 hn hB
  have e3 := joinsE h1 h hp hs he (mi := m % 2) (mo := m / 2) (by omega) (by omega) hn hB
  have e4 := forgesI hn hB
  obtain ⟨c', a', e5⟩ := seesC hd hC hD c20 a21
  refine ⟨(c', a'), ?_⟩
  unfold q_X11_isSound
  rw [show t_X5_size (nI n) = nI n from rfl, e1, Option.bind_some, e2, Option.bind_some, lgs, if_neg (show ¬ ¬ (0 : Int32) = 0 from fun h => h rfl), e3, Option.bind_some, if_neg (show ¬ (1 : Int32) = 0 by decide), e4, Option.bind_some, if_neg (show ¬ (1 : Int32) = 0 by decide), e5, Option.bind_some]
  rfl
set_option maxHeartbeats 4000000 in
theorem lawT {a49 a6 a5 a2 a47 a37 a38 a34 a42 a43 a44 a18 a22 a21 a16 a26 a25 a32 a28 a30 : Nat → Int32} {a46 a10 a11 : Nat → Int64} {c45 c35 c36 c33 c40 c41 c20 c31 c29 c27 : Int32} {x y x' y' x'' y'' : Int64} {P : Nat → Nat} (hS : S.1 ≤ 260) (hC : ICo a22) (hP : SH a10 a11 P) :
    Sat (q_L_law S 0 32 3 517762881 4294967295 4294967295 a49 0 0 0 64 a6 a5 a2 32 517762881 (-1) (-1) 1 1 a46 a47 c45 c35 c36 a37 a38 c33 a34 c40 c41 a42 a43 a44 32 517762881 (-1) (-1) 1 1 0 a18 a22 c20 a21 a10 a11 x y x' y' x'' y'' a16 0 9 c31 a26 a25 a32 a28 c29 a30 c27) fun z => z = 1 := by
  obtain ⟨v0, hv0, e0⟩ := someT hS (i := 0) (n := 9) (by omega) (by omega) (by omega)
  obtain ⟨va, hva, e80⟩ := someT hS (i := 80) (n := 3) (by omega) (by omega) (by omega)
  obtain ⟨vb, hvb, e81⟩ := someT hS (i := 81) (n := 12) (by omega) (by omega) (by omega)
  obtain ⟨t1, e82⟩ := cellT hS (i := 82) (by omega)
  obtain ⟨t1, ht1, rfl⟩ := nI_any t1
  obtain ⟨t2, e83⟩ := cellT hS (i := 83) (by omega)
  obtain ⟨t2, ht2, rfl⟩ := nI_any t2
  obtain ⟨t3, e84⟩ := cellT hS (i := 84) (by omega)
  obtain ⟨t3, ht3, rfl⟩ := nI_any t3
  obtain ⟨m, hm, e85⟩ := someT hS (i := 85) (n := 4) (by omega) (by omega) (by omega)
  have ew : (2 : Int32) + nI v0 = nI (2 + v0) := by rw [k2, nI_add]
  obtain ⟨w, hw⟩ : ∃ w, w = min 32 (1 + va * 10 + vb) := ⟨_, rfl⟩
  have eW : (if (((1 : Int32) + (nI va * (10 : Int32))) + nI vb) < (32 : Int32) then (((1 : Int32) + (nI va * (10 : Int32))) + nI vb) else (32 : Int32)) = nI w := by
    rw [k1, k10, nI_mul, nI_add, nI_add, show (32 : Int32) = nI 32 from rfl, nI_min' (by omega) (by omega), hw]
  have h1 : 1 ≤ w := by omega
  have h32 : w ≤ 32 := by omega
  have hp2 := pow_le h32
  have hw0 := Nat.two_pow_pos w
  obtain ⟨p, hp⟩ : ∃ p, p = t1 % 2 ^ w ||| 1 := ⟨_, rfl⟩
  have po : p % 2 = 1 := by
    have := odd_b (t1 % 2 ^ w)
    rw [← hp, Nat.testBit_zero, decide_eq_true_eq] at this
    exact this
  have pw : p < 2 ^ w := by rw [hp]; exact Nat.or_lt_two_pow (Nat.mod_lt _ hw0) (Nat.one_lt_two_pow (by omega))
  have ep : ((nI t1).toInt64 &&& (((1 : Int64) <<< ((nI w).toInt64 &&& 63)) - 1)) ||| 1 = lN p := by
    rw [low_l ht1 h32, show lN (t1 % 2 ^ w) ||| 1 = lN p by rw [show (1 : Int64) = lN 1 from rfl, lN_or, hp]]
  have es := low_l ht2 h32
  have ee := low_l ht3 h32
  have sw : t2 % 2 ^ w < 2 ^ w := Nat.mod_lt _ hw0
  have ew2 : t3 % 2 ^ w < 2 ^ w := Nat.mod_lt _ hw0
  generalize t2 % 2 ^ w = s at es sw
  generalize t3 % 2 ^ w = e at ee ew2
  unfold q_L_law
  refine se (x := nI v0) e0 ?_
  rw [ew]
  refine sb (law29 hS (show 2 + v0 ≤ 10 by omega) (2 + v0) 0 10000 0 0 0 (fun _ => 0) a49 a6 a5 a2 (by omega) (by omega) (by omega) (by omega) (by omega) (fun k hk => absurd hk (Nat.not_lt_zero k))) ?_
  rintro ⟨l, s1, s2, s3, s4, s5, s6, s7, s8⟩ ⟨n0, p0, q0, B0, -, hn0, hp0, hq0, r1, r2, r3, r4, hB0⟩
  replace r1 : s1 = nI n0 := r1
  replace r2 : s3 = nI n0 := r2
  replace r3 : s4 = nI p0 := r3
  replace r4 : s5 = nI q0 := r4
  subst r1; subst r2; subst r3; subst r4
  refine sb (law135 (4 - n0) n0 10000 p0 q0 B0 s2 s6 s7 s8 rfl (by omega) hn0 hp0 hq0 hB0) ?_
  rintro ⟨u1, u2, u3, u4, u5, u6, u7, u8⟩ ⟨n, pp, q, B, hn4, hn, hpp, hq, r1, r2, r3, r4, hB⟩
  replace r1 : u1 = nI n := r1
  replace r2 : u3 = nI n := r2
  replace r3 : u4 = nI pp := r3
  replace r4 : u5 = nI q := r4
  replace hB : ∀ k, k < n → B k < 256 ∧ u8 k = nI (B k) ∧ u2 k = nI (B k) := hB
  subst r1; subst r2; subst r3; subst r4
  have hn64 : n ≤ 64 := by omega
  have h0 : 1 ≤ n := by omega
  have hB2 : ∀ k, k < n → B k < 256 ∧ u8 k = nI (B k) := fun k hk => ⟨(hB k hk).1, (hB k hk).2.1⟩
  refine se (isToldT hn64 hB) ?_
  refine sN (show ¬ (1 : Int32) = 0 by decide) ?_
  refine se (areSumsL hS h0 hn64 hB) ?_
  refine sN (show ¬ (1 : Int32) = 0 by decide) ?_
  refine sxe (sumL hn64 hB2) ?_
  refine sxe (lib0 hn64 hB2) ?_
  refine sN (fun z => z (lgs _)) ?_
  obtain ⟨g, p', q', a6', a5', hp', hq', hg, ef⟩ := isForgedT (a6 := u6) (a5 := u7) hS hn4 hn64 hpp hq hB2
  have hG : ∀ k, k < n → B k < 256 ∧ g k = nI (B k) ∧ u2 k = nI (B k) := fun k hk => ⟨(hB k hk).1, hg k hk, (hB k hk).2.2⟩
  refine se ef ?_
  refine sP (show ¬ (1 : Int32) = 0 by decide) ?_
  refine se (x := nI va) e80 ?_
  refine se (x := nI vb) e81 ?_
  refine se (x := nI t1) e82 ?_
  refine se (x := nI t2) e83 ?_
  refine se (x := nI t3) e84 ?_
  refine se (x := nI m) e85 ?_
  rw [eW, ep, es, ee, lN_i, lN_i, lN_i]
  refine sxe (kindC_T (by omega) (by omega) (by omega) h1 h32 hm pw sw ew2 po) ?_
  refine sP rfl ?_
  refine se (areSumsT (a49 := u2) hS h1 h32 pw sw ew2 hm h0 hn64 hG) ?_
  refine sN (show ¬ (1 : Int32) = 0 by decide) ?_
  refine sb (areBurstsT hS h1 h32 pw po hP) ?_
  rintro y73 ⟨r73, P1, H73⟩
  refine sN (show ¬ y73.1 = 0 by rw [r73]; decide) ?_
  refine sb (arePairsT h1 h32 pw po H73) ?_
  rintro y92 ⟨r92, P2, H92⟩
  refine sN (show ¬ y92.1 = 0 by rw [r92]; decide) ?_
  refine sb (isDivisionT hS H92) ?_
  rintro y111 ⟨r111, P3, H111⟩
  refine sN (show ¬ y111.1 = 0 by rw [r111]; decide) ?_
  refine sb (areDigitsT hS hC) ?_
  rintro y130 ⟨r130, d, D, d1, d9, rd, hD⟩
  refine sN (show ¬ (if y130.1 = 0 then (0 : Int32) else 1) = 0 by rw [r130]; decide) ?_
  refine sb (isTreeT (a49 := u2) hS hn64 h0 hp' hq' hG) ?_
  rintro y134 ⟨r134, n134, g134⟩
  refine sN (show ¬ y134.1 = 0 by rw [r134]; decide) ?_
  rw [n134, rd]
  have hG2 : ∀ k, k < n → B k < 256 ∧ y134.2.2.1 k = nI (B k) := fun k hk => ⟨(hB k hk).1, g134 k hk⟩
  refine sb (areChunksT hS hn64 h0 hG2) ?_
  intro y138 r138
  refine sN (show ¬ y138.1 = 0 by rw [r138]; decide) ?_
  refine se (isToldT hn64 (fun k hk => ⟨(hB k hk).1, g134 k hk, (hB k hk).2.2⟩)) ?_
  refine sN (show ¬ (1 : Int32) = 0 by decide) ?_
  obtain ⟨c', es'⟩ := isSoundT (c20 := y130.2.2.2.1) (a21 := y130.2.2.2.2.1) h1 h32 pw sw ew2 hm hn64 hG2 (show d ≤ 18 by omega) hC hD
  refine se es' ?_
  refine sN (show ¬ (1 : Int32) = 0 by decide) ?_
  exact ⟨_, rfl, rfl⟩
end LAW

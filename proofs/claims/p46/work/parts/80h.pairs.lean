/-! Pairs of bits: which of them are not seen is told by the order. -/
theorem two_iT {w p : Nat} (h1 : 1 ≤ w) (hp : p < 2 ^ w) : ∀ n, pdv (2 ^ w + p) (2 ^ n ^^^ iT w p n 1) := by
  intro n
  induction n with
  | zero =>
    have e : 2 ^ 0 ^^^ iT w p 0 1 = 0 := by
      show 2 ^ 0 ^^^ 1 = 0
      decide
    rw [e]
    exact ⟨0, 0, by decide, rfl⟩
  | succ n ih =>
    have hr := iT_lt (w := w) (p := p) hp (show 1 < 2 ^ w from Nat.one_lt_two_pow (by omega)) n
    have e := kT_eq h1 hp hr
    have e1 : iT w p (n + 1) 1 = kT w p (iT w p n 1) := rfl
    have e2 : (2 ^ n ^^^ iT w p n 1) * 2 ^ 1 = 2 ^ (n + 1) ^^^ 2 * iT w p n 1 := by
      rw [shx, Nat.pow_one, ← Nat.pow_succ, Nat.mul_comm]
    have h2 := pdv_sh 1 ih
    rw [e2] at h2
    rw [e1, ← e]
    cases c : (2 * iT w p n 1).testBit w with
    | true =>
      rw [if_pos rfl, ← Nat.xor_assoc]
      exact pdv_xor h2 (pdv_self _)
    | false =>
      rw [if_neg (by decide)]
      exact h2
theorem pdv_two {w p n : Nat} (h1 : 1 ≤ w) (hp : p < 2 ^ w) : pdv (2 ^ w + p) (2 ^ n ^^^ 1) ↔ iT w p n 1 = 1 := by
  have h1w : 1 < 2 ^ w := Nat.one_lt_two_pow (by omega)
  have hr := iT_lt (w := w) (p := p) hp h1w n
  have ht := two_iT h1 hp n
  have e : (2 ^ n ^^^ iT w p n 1) ^^^ (2 ^ n ^^^ 1) = iT w p n 1 ^^^ 1 := by
    rw [Nat.xor_comm (2 ^ n) (iT w p n 1), Nat.xor_assoc, ← Nat.xor_assoc (2 ^ n) (2 ^ n), Nat.xor_self, Nat.zero_xor]
  constructor
  · intro h
    have h2 := pdv_xor ht h
    rw [e] at h2
    exact xor0 (pdv_small (Nat.le_add_right _ _) (by rw [Nat.pow_succ]; omega) (Nat.xor_lt_two_pow hr h1w) h2)
  · intro h
    rw [h] at ht
    exact ht
theorem iT_mul {w p R : Nat} (h : iT w p R 1 = 1) : ∀ q, iT w p (R * q) 1 = 1 := by
  intro q
  induction q with
  | zero => rfl
  | succ q ih => rw [Nat.mul_succ, iT_add, h, ih]
theorem iT_ord {w p R n : Nat} (h0 : 1 ≤ R) (h : iT w p R 1 = 1) (hm : ∀ j, 1 ≤ j → j < R → iT w p j 1 ≠ 1) : iT w p n 1 = 1 ↔ n % R = 0 := by
  have e : iT w p n 1 = iT w p (n % R) 1 := by
    have e1 : n = n % R + R * (n / R) := (Nat.mod_add_div n R).symm
    rw [congrArg (fun z => iT w p z 1) e1]
    show iT w p (n % R + R * (n / R)) 1 = _
    rw [iT_add, iT_mul h]
  rw [e]
  constructor
  · intro h2
    by_cases z : n % R = 0
    · exact z
    · exact absurd h2 (hm _ (by omega) (Nat.mod_lt n h0))
  · intro z
    rw [z]
    rfl
theorem orderC {d p : Nat} (h1 : 1 ≤ d) (hd : d ≤ 12) (hp : p < 2 ^ d) (ho : p % 2 = 1) : ∃ R, 1 ≤ R ∧ R ≤ 4095 ∧ iT d p R 1 = 1 ∧ (∀ j, 1 ≤ j → j < R → iT d p j 1 ≠ 1) ∧ q_X4_orderOf (nI (2 ^ d + p)) = some (nI R) := by
  have h12 : 2 ^ d ≤ 2 ^ 12 := Nat.pow_le_pow_right (by decide) hd
  have h1d : 1 < 2 ^ d := Nat.one_lt_two_pow (by omega)
  obtain ⟨N, n1, n2, n3⟩ := order_ex h1 hp ho
  have eP : dgI (2 ^ d + p) = nI d := log_of (Nat.le_add_right _ _) (by rw [Nat.pow_succ]; omega)
  have key : ∀ t i f, i + t = N → 1 ≤ i → t < f → (∀ j, 1 ≤ j → j < i → iT d p j 1 ≠ 1) → ∃ R, 1 ≤ R ∧ R ≤ 4095 ∧ iT d p R 1 = 1 ∧ (∀ j, 1 ≤ j → j < R → iT d p j 1 ≠ 1) ∧ q_X4_orderOf_L9 (nI (2 ^ d + p)) (nI d) f (nI (iT d p (i - 1) 1)) (nI i) = some (.inr (nI R)) := by
    intro t
    induction t with
    | zero =>
      intro i f hi h1i hf hm
      obtain ⟨f, rfl⟩ : ∃ g, f = g + 1 := ⟨f - 1, by omega⟩
      have hl := iT_lt (w := d) (p := p) hp h1d (i - 1)
      have e1 : kT d p (iT d p (i - 1) 1) = iT d p i 1 := by show iT d p (i - 1 + 1) 1 = _; rw [show i - 1 + 1 = i by omega]
      have eN : iT d p i 1 = 1 := by rw [show i = N by omega]; exact n3
      have e2 := kT_eq h1 hp hl
      have e3 : (if (xus (nI (iT d p (i - 1) 1) <<< ((1 : Int32) &&& 31)) (nI d)) &&& 1 = 0 then nI (iT d p (i - 1) 1) <<< ((1 : Int32) &&& 31) else (nI (iT d p (i - 1) 1) <<< ((1 : Int32) &&& 31)) ^^^ nI (2 ^ d + p)) = nI (iT d p i 1) := by
        rw [k1, nI_shl _ (k := 1) (by omega), Nat.pow_one, Nat.mul_comm _ 2, nI_xus (by omega) (by omega), nI_and, and1, tb_div, nI_xor, ← e1, ← e2]
        cases (2 * iT d p (i - 1) 1).testBit d with
        | true => rw [if_neg (show ¬ nI true.toNat = 0 by decide), if_pos rfl]
        | false => rw [if_pos (show nI false.toNat = 0 from rfl), if_neg (by decide)]
      refine ⟨i, h1i, by omega, eN, hm, ?_⟩
      rw [q_X4_orderOf_L9, if_neg (show ¬ (4096 : Int32) < nI i by rw [ltI, nI_toInt (by omega), show (4096 : Int32).toInt = 4096 from rfl]; omega), e3, eN, if_neg (show ¬ ¬ nI 1 = 1 from fun h => h rfl)]
    | succ t ih =>
      intro i f hi h1i hf hm
      obtain ⟨f, rfl⟩ : ∃ g, f = g + 1 := ⟨f - 1, by omega⟩
      have hl := iT_lt (w := d) (p := p) hp h1d (i - 1)
      have hli := iT_lt (w := d) (p := p) hp h1d i
      have e1 : kT d p (iT d p (i - 1) 1) = iT d p i 1 := by show iT d p (i - 1 + 1) 1 = _; rw [show i - 1 + 1 = i by omega]
      have e2 := kT_eq h1 hp hl
      have e3 : (if (xus (nI (iT d p (i - 1) 1) <<< ((1 : Int32) &&& 31)) (nI d)) &&& 1 = 0 then nI (iT d p (i - 1) 1) <<< ((1 : Int32) &&& 31) else (nI (iT d p (i - 1) 1) <<< ((1 : Int32) &&& 31)) ^^^ nI (2 ^ d + p)) = nI (iT d p i 1) := by
        rw [k1, nI_shl _ (k := 1) (by omega), Nat.pow_one, Nat.mul_comm _ 2, nI_xus (by omega) (by omega), nI_and, and1, tb_div, nI_xor, ← e1, ← e2]
        cases (2 * iT d p (i - 1) 1).testBit d with
        | true => rw [if_neg (show ¬ nI true.toNat = 0 by decide), if_pos rfl]
        | false => rw [if_pos (show nI false.toNat = 0 from rfl), if_neg (by decide)]
      by_cases c : iT d p i 1 = 1
      · refine ⟨i, h1i, by omega, c, hm, ?_⟩
        rw [q_X4_orderOf_L9, if_neg (show ¬ (4096 : Int32) < nI i by rw [ltI, nI_toInt (by omega), show (4096 : Int32).toInt = 4096 from rfl]; omega), e3, c, if_neg (show ¬ ¬ nI 1 = 1 from fun h => h rfl)]
      · have hne : ¬ nI (iT d p i 1) = 1 := ne_of_nI (b := 1) c (by omega) (by decide)
        obtain ⟨R, r1, r2, r3, r4, r5⟩ := ih (i + 1) f (by omega) (by omega) (by omega) (fun j h1 h2 => by
          by_cases z : j = i
          · rw [z]; exact c
          · exact hm j h1 (by omega))
        rw [Nat.add_sub_cancel] at r5
        refine ⟨R, r1, r2, r3, r4, ?_⟩
        rw [q_X4_orderOf_L9, if_neg (show ¬ (4096 : Int32) < nI i by rw [ltI, nI_toInt (by omega), show (4096 : Int32).toInt = 4096 from rfl]; omega), e3, if_pos hne, nI_1]
        exact r5
  obtain ⟨R, r1, r2, r3, r4, r5⟩ := key (N - 1) 1 10000 (by omega) (Nat.le_refl 1) (by omega) (fun j h1 h2 => by omega)
  refine ⟨R, r1, r2, r3, r4, ?_⟩
  replace r5 : q_X4_orderOf_L9 (nI (2 ^ d + p)) (nI d) 10000 1 1 = some (.inr (nI R)) := r5
  unfold q_X4_orderOf
  rw [smD (by omega), Option.bind_some, eP, r5]
  rfl
theorem fo_some {P : Nat → Bool} {r : Nat} (hr : P r = true) : ∀ n a, a ≤ r → r < a + n → (∀ j, a ≤ j → j < r → ¬ P j = true) → fo P a n = some r := by
  intro n
  induction n with
  | zero => intro a h1 h2 _; omega
  | succ n ih =>
    intro a h1 h2 h3
    by_cases c : a = r
    · subst c
      exact fo_T (by omega) hr
    · rw [fo_F (by omega) (h3 a (Nat.le_refl a) (by omega)), Nat.add_sub_cancel]
      exact ih (a + 1) (by omega) (by omega) (fun j z1 z2 => h3 j (by omega) z2)
theorem fo_none {P : Nat → Bool} : ∀ n a, (∀ j, a ≤ j → j < a + n → ¬ P j = true) → fo P a n = none := by
  intro n
  induction n with
  | zero => intro a _; rfl
  | succ n ih =>
    intro a h3
    rw [fo_F (by omega) (h3 a (Nat.le_refl a) (by omega)), Nat.add_sub_cancel]
    exact ih (a + 1) (fun j z1 z2 => h3 j (by omega) (by omega))
theorem zR_iT {w p : Nat} : ∀ k, zR w p k = iT w p k 1 := by
  intro k
  induction k with
  | zero => rfl
  | succ k ih =>
    show kT w p (zR w p k) = kT w p (iT w p k 1)
    rw [ih]
theorem smallG {s P : Nat} {a10 a11 : Nat → Int64} {x y : Int64} (hs : s < 8) (hP : P < 2 ^ 96) (b1 : a10 s = pL P) (b2 : a11 s = pH P) (h0 : P ≠ 0) (h : 12 < P.log2) : q_X11_smallNumberOn (nI s) a10 a11 x y = some (.inl 5, (pL P, pH P)) := by
  have h95 := lg12 h0 hP
  have e : dgI P = nI P.log2 := if_neg h0
  unfold q_X11_smallNumberOn
  rw [rsT hs]
  simp only [xbnd, takeS hs, Option.bind_some, b1, b2, degC hP, e]
  rw [if_neg (show ¬ nI P.log2 < 1 by rw [ltI, nI_toInt (by omega), show (1 : Int32).toInt = 1 from rfl]; omega), if_neg (show ¬ nI P.log2 ≤ 12 from nI_ge (a := 12) h (by omega))]
section PAIRS
variable {a10 a11 : Nat → Int64} {a16 : Nat → Int32} {P : Nat → Nat} {x y x' y' x'' y'' : Int64} {w p R : Nat}
theorem short2 (h1 : 1 ≤ w) (h : w ≤ 32) (hp : p < 2 ^ w) (r0 : 1 ≤ R) (r95 : R ≤ 4095) (r1 : iT w p R 1 = 1) (hm : ∀ j, 1 ≤ j → j < R → iT w p j 1 ≠ 1) :
    Sat (q_X11_shortest 2 a16 (nI w) (nI p) x y) fun c => c.1 = .inr (if (48 : Int32) ≤ nI R then (-1 : Int32) else nI R + 1) := by
  obtain ⟨g, g1⟩ := sokT (f := 2) (a16 := a16) (by omega) (by omega) h1 h hp
  replace g1 : q_X11_slipOfKind 2 a16 (nI w) (nI p) = _ := g1
  have hU : ∀ n, sU (zR w p) 2 n = if zR w p n ^^^ 1 = 0 then some (2 ^ n ||| 0 ||| 1) else none := fun n => rfl
  have hz : ∀ n, (sU (zR w p) 2 n).isSome = true ↔ iT w p n 1 = 1 := by
    intro n
    rw [hU, zR_iT]
    by_cases c : iT w p n 1 = 1
    · rw [c, if_pos (by decide)]
      exact ⟨fun _ => rfl, fun _ => rfl⟩
    · rw [if_neg (fun z => c (xor0 z))]
      exact ⟨fun z => (by cases z), fun z => absurd z c⟩
  by_cases c : R < 48
  · have hs : sL (zR w p) 2 48 = some R := fo_some ((hz R).mpr r1) 47 1 r0 (by omega) (fun j z1 z2 z3 => hm j z1 z2 ((hz j).mp z3))
    have hv : sU (zR w p) 2 R = some (2 ^ R ||| 0 ||| 1) := by
      rw [hU, zR_iT, r1]
      exact if_pos (by decide)
    rw [hs] at g1
    replace g1 : q_X11_slipOfKind 2 a16 (nI w) (nI p) = some (.inr (match sU (zR w p) 2 R with | none => 0 | some v => lN v), g) := g1
    rw [hv] at g1
    replace g1 : q_X11_slipOfKind 2 a16 (nI w) (nI p) = some (.inr (lN (2 ^ R ||| 0 ||| 1)), g) := g1
    have hv2 := sU_lt c hv
    have hv3 := sU_log r0 hv
    generalize 2 ^ R ||| 0 ||| 1 = v at g1 hv2 hv3
    have e5 : q_X4_degree (t_X4_become (lN v) 0).1 (t_X4_become (lN v) 0).2 = some (nI R) := by
      have d := degC (P := v) (by omega)
      have a1 : pL v = lN v := by unfold pL; rw [Nat.mod_eq_of_lt (by omega)]
      have a2 : pH v = 0 := by unfold pH; rw [Nat.div_eq_of_lt (by omega)]; rfl
      rw [a1, a2, log_of hv3.1 hv3.2] at d
      exact d
    refine ⟨_, by unfold q_X11_shortest; rw [g1, xbnd_r, if_pos (lN0 (show v < 9223372036854775808 by omega) hv2.2), e5, Option.bind_some], ?_⟩
    show Sum.inr (nI R + 1) = _
    rw [if_neg (show ¬ (48 : Int32) ≤ nI R from nI_ge (b := 48) c (by decide))]
  · have hs : sL (zR w p) 2 48 = none := fo_none 47 1 (fun j z1 z2 z3 => hm j z1 (by omega) ((hz j).mp z3))
    rw [hs] at g1
    replace g1 : q_X11_slipOfKind 2 a16 (nI w) (nI p) = some (.inr 0, g) := g1
    refine ⟨_, by unfold q_X11_shortest; rw [g1, xbnd_r, if_neg (fun z => z (lgs 0))], ?_⟩
    show Sum.inr (-1) = _
    rw [if_pos (show (48 : Int32) ≤ nI R from nI_le (a := 48) (by omega) (by omega))]
theorem pairs36 (h1 : 1 ≤ w) (h : w ≤ 12) (hp : p < 2 ^ w) (r0 : 1 ≤ R) (r95 : R ≤ 4095) (r1 : iT w p R 1 = 1) (hm : ∀ j, 1 ≤ j → j < R → iT w p j 1 ≠ 1) :
    ∀ t k f (a10 a11 : Nat → Int64) (P : Nat → Nat) (x y x' y' x'' y'' : Int64), k + t = 64 → 1 ≤ k → t < f → SH a10 a11 P →
      Sat (q_L_arePairs_L36 (nI R) (nI w) (nI p) f (nI k) a10 a11 x y x' y' x'' y'') fun z => ∃ P', SH z.2.1 z.2.2.1 P' := by
  intro t
  induction t with
  | zero =>
    intro k f a10 a11 P x y x' y' x'' y'' hk _ hf hS
    obtain ⟨f, rfl⟩ : ∃ g, f = g + 1 := ⟨f - 1, by omega⟩
    have hk : k = 64 := by omega
    subst hk
    rw [q_L_arePairs_L36]
    exact sP (by decide) ⟨_, rfl, P, hS⟩
  | succ t ih =>
    intro k f a10 a11 P x y x' y' x'' y'' hk h1k hf hS
    obtain ⟨f, rfl⟩ : ∃ g, f = g + 1 := ⟨f - 1, by omega⟩
    have hV : 2 ^ k + 1 = 2 ^ k ^^^ 1 := by
      have := mul_add_xor (a := 1) (i := k) 1 (Nat.one_lt_two_pow (by omega))
      rw [Nat.mul_one] at this
      exact this
    have h2k : 2 ≤ 2 ^ k := by
      have := Nat.pow_le_pow_right (n := 2) (by decide) h1k
      rw [Nat.pow_one] at this
      exact this
    have dV : dgI (2 ^ k + 1) = nI k := log_of (by omega) (by rw [Nat.pow_succ]; omega)
    have nR : ¬ nI R = 0 := ne_of_nI (b := 0) (by omega) (by omega) (by decide)
    have eM : nI k - nI k / nI R * nI R = nI (k % R) := nI_mod (by omega) (by omega) (by omega)
    have hV0 : 2 ^ k + 1 ≠ 0 := by omega
    have seen : ∀ (b10 b11 : Nat → Int64) (x y x' y' x'' y'' : Int64), SH b10 b11 (upN P 0 (2 ^ k + 1)) → Sat (q_L_seen 0 b10 b11 x y (nI w) (nI p) x' y' x'' y'') fun c => c.1 = if ¬ nI (k % R) = 0 then 1 else 0 := by
      intro b10 b11 x y x' y' x'' y'' hS
      by_cases c : k % R = 0
      · have hd : pdv (2 ^ w + p) (2 ^ k + 1) := by rw [hV]; exact (pdv_two h1 hp).mpr ((iT_ord r0 r1 hm).mpr c)
        rw [c, if_neg (fun z => z rfl)]
        exact seen0 (s := 0) (by omega) h1 (by omega) hp hS (by rw [upN_eq]; exact hV0) (by rw [upN_eq]; exact hd)
      · have hd : ¬ pdv (2 ^ w + p) (2 ^ k + 1) := by rw [hV]; exact fun z => c ((iT_ord r0 r1 hm).mp ((pdv_two h1 hp).mp z))
        rw [if_pos (show ¬ nI (k % R) = (0 : Int32) from ne_of_nI (b := 0) c (by have := Nat.mod_le k R; omega) (by decide))]
        exact seen1 (s := 0) (by omega) h1 (by omega) hp hS (by rw [upN_eq]; exact hV0) (by rw [upN_eq]; exact hd)
    rw [q_L_arePairs_L36, eM, nI_1]
    refine sN (show ¬ (64 : Int32) ≤ nI k from nI_ge (b := 64) (by omega) (by decide)) ?_
    by_cases c : 32 ≤ k
    · refine sP (show (32 : Int32) ≤ nI k from nI_le (a := 32) c (by omega)) ?_
      have e1 : (1 : Int32) <<< ((nI k - 32) &&& 31) = nI (2 ^ (k - 32)) := by
        rw [show nI k - 32 = nI (k - 32) from nI_sub (b := 32) c, k1, nI_shl 1 (by omega), Nat.one_mul]
      have hb : 2 ^ (k - 32) < 4294967296 := Nat.lt_of_lt_of_le (Nat.pow_lt_pow_right (by decide) (show k - 32 < 32 by omega)) (by decide)
      have e2 : 2 ^ 32 * 2 ^ (k - 32) + 1 = 2 ^ k + 1 := by rw [← Nat.pow_add, show 32 + (k - 32) = k by omega]
      rw [e1]
      refine sx (polyT (s := 0) (a := 1) (by omega) (by omega) hb hS) ?_
      intro y4 H4
      rw [e2] at H4 ⊢
      rw [dV]
      refine sN (fun z => z rfl) ?_
      refine sb (seen _ _ _ _ _ _ _ _ H4) ?_
      intro y7 r7
      refine sN nR ?_
      refine sP r7 ?_
      exact ih (k + 1) f _ _ _ _ _ _ _ _ _ (by omega) (by omega) (by omega) H4
    · refine sN (show ¬ (32 : Int32) ≤ nI k from nI_ge (b := 32) (by omega) (by decide)) ?_
      have e1 : (1 : Int32) ||| ((1 : Int32) <<< (nI k &&& 31)) = nI (2 ^ k + 1) := by
        rw [k1, nI_shl 1 (by omega), nI_or, or_add (Nat.one_lt_two_pow (by omega)), Nat.mul_one]
      have hb : 2 ^ k + 1 < 4294967296 := by
        have : 2 ^ k ≤ 2 ^ 31 := Nat.pow_le_pow_right (by decide) (by omega)
        omega
      have e2 : 2 ^ 32 * 0 + (2 ^ k + 1) = 2 ^ k + 1 := by omega
      rw [e1]
      refine sx (polyT (s := 0) (b := 0) (by omega) hb (by omega) hS) ?_
      intro y13 H13
      rw [e2] at H13 ⊢
      rw [dV]
      refine sN (fun z => z rfl) ?_
      refine sb (seen _ _ _ _ _ _ _ _ H13) ?_
      intro y16 r16
      refine sN nR ?_
      refine sP r16 ?_
      exact ih (k + 1) f _ _ _ _ _ _ _ _ _ (by omega) (by omega) (by omega) H13
theorem arePairsT (h1 : 1 ≤ w) (h : w ≤ 32) (hp : p < 2 ^ w) (ho : p % 2 = 1) (hS : SH a10 a11 P) :
    Sat (q_L_arePairs a10 a11 (nI w) (nI p) x y x' y' (nI w) x'' y'' a16) fun z => z.1 = 1 ∧ ∃ P', SH z.2.1 z.2.2.1 P' := by
  have hw := pow_le h
  have hw0 := Nat.two_pow_pos w
  have k0 : 2 ^ w + p ≠ 0 := by omega
  have kl : (2 ^ w + p).log2 = w := (Nat.log2_eq_iff k0).mpr ⟨by omega, by rw [Nat.pow_succ]; omega⟩
  unfold q_L_arePairs
  refine sx (kindT (s := 3) (by omega) h hp hS) ?_
  intro y4 H4
  obtain ⟨g1, g2, g3⟩ := H4 3 (by omega)
  rw [upN_eq] at g1 g2 g3
  by_cases c : w ≤ 12
  · obtain ⟨R, r0, r95, r1, hm, ro⟩ := orderC h1 c hp ho
    have h12 : 2 ^ w ≤ 2 ^ 12 := Nat.pow_le_pow_right (by decide) c
    have e1 : ∀ x y, q_L_order 3 y4.1 y4.2.1 x y = some (nI R, false, pL (2 ^ w + p), pH (2 ^ w + p)) := by
      intro x y
      have e2 : q_X11_smallNumberOn 3 y4.1 y4.2.1 x y = some (.inr (nI (2 ^ w + p)), (pL (2 ^ w + p), pH (2 ^ w + p))) := smallT (s := 3) (by omega) g1 g2 g3 k0 (by omega) (by omega)
      have od : (2 ^ w + p) % 2 = 1 := by
        obtain ⟨v, rfl⟩ : ∃ v, w = v + 1 := ⟨w - 1, by omega⟩
        rw [Nat.pow_succ]
        omega
      have e3 : q_X11_order 3 y4.1 y4.2.1 x y = some (.inr (nI R), (pL (2 ^ w + p), pH (2 ^ w + p))) := by
        unfold q_X11_order
        rw [e2, xbnd_r, if_pos (fun z => (oddT (by omega)).mp z od), ro, Option.bind_some]
      unfold q_L_order
      rw [e3, xbnd_r]
    refine se (e1 _ _) ?_
    refine sP (show nI w ≤ (12 : Int32) from nI_le (b := 12) c (by decide)) ?_
    refine sb (pairs36 h1 c hp r0 r95 r1 hm 63 1 65 _ _ _ _ _ _ _ _ _ (by omega) (by omega) (by omega) H4) ?_
    rintro y10 ⟨P', H10⟩
    obtain ⟨v, e4, e5⟩ := short2 (a16 := a16) (x := y10.2.2.2.1) (y := y10.2.2.2.2.1) h1 h hp r0 r95 r1 hm
    obtain ⟨v1, v2⟩ := v
    replace e5 : v1 = .inr (if (48 : Int32) ≤ nI R then (-1 : Int32) else nI R + 1) := e5
    subst e5
    refine sxe e4 ?_
    refine sN (fun z => z rfl) ?_
    refine sN (fun z => z rfl) ?_
    exact ⟨_, rfl, rfl, P', H10⟩
  · have e1 : ∀ x y, q_L_order 3 y4.1 y4.2.1 x y = some (-2, true, pL (2 ^ w + p), pH (2 ^ w + p)) := by
      intro x y
      have e2 : q_X11_smallNumberOn 3 y4.1 y4.2.1 x y = some (.inl 5, (pL (2 ^ w + p), pH (2 ^ w + p))) := smallG (s := 3) (by omega) g1 g2 g3 k0 (by omega)
      have e3 : q_X11_order 3 y4.1 y4.2.1 x y = some (.inl 5, (pL (2 ^ w + p), pH (2 ^ w + p))) := by
        unfold q_X11_order
        rw [e2, xbnd_l]
      unfold q_L_order
      rw [e3, xbnd_l, if_pos rfl]
    refine se (e1 _ _) ?_
    refine sN (show ¬ nI w ≤ (12 : Int32) from nI_ge (a := 12) (by omega) (by omega)) ?_
    refine sN (fun z => z rfl) ?_
    exact ⟨_, rfl, rfl, _, H4⟩
end PAIRS

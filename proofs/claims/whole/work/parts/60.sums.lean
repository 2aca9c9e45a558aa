/-! Sums of the row by 255 and by 65521; the typed digits. -/
def sF (B : Nat → Nat) : Nat → Nat
  | 0 => 0
  | k + 1 => sF B k + B k
def sG (a : Nat) (B : Nat → Nat) : Nat → Nat
  | 0 => 0
  | k + 1 => sG a B k + (a + sF B (k + 1))
theorem sF_le {B : Nat → Nat} {n : Nat} (h : ∀ k, k < n → B k < 256) : ∀ k, k ≤ n → sF B k ≤ 255 * k := by
  intro k
  induction k with
  | zero => intro _; exact Nat.le_refl _
  | succ k ih => intro hk; have := ih (by omega); have := h k (by omega); show sF B k + B k ≤ _; omega
theorem sG_le {a : Nat} {B : Nat → Nat} {n : Nat} (ha : a ≤ 1) (hn : n ≤ 64) (h : ∀ k, k < n → B k < 256) : ∀ k, k ≤ n → sG a B k ≤ 16321 * k := by
  intro k
  induction k with
  | zero => intro _; exact Nat.le_refl _
  | succ k ih => intro hk; have := ih (by omega); have := sF_le h (k + 1) hk; show sG a B k + (a + sF B (k + 1)) ≤ _; omega
theorem sumsC {m n s : Nat} {B : Nat → Nat} {a2 : Nat → Int32} {F : Nat → Int32 → Int32 → Int32 → Option (Int32 × Int32 × Int32)} (hm : m < 100000) (h1 : 1 < m) (hn : n ≤ 64) (hB : ∀ k, k < n → B k < 256 ∧ a2 k = nI (B k))
    (hs : ∀ f l1 l2, F (f + 1) l1 l2 (nI n) = some (l1, l2, nI n))
    (ht : ∀ f i l1 l2, i < n → F (f + 1) (nI l1) (nI l2) (nI i) = F f ((nI l1 + a2 i) - (nI l1 + a2 i) / nI m * nI m) ((nI l2 + ((nI l1 + a2 i) - (nI l1 + a2 i) / nI m * nI m)) - (nI l2 + ((nI l1 + a2 i) - (nI l1 + a2 i) / nI m * nI m)) / nI m * nI m) (nI (i + 1))) (hsm : s ≤ 1) :
    ∃ r : Int32 × Int32 × Int32, F 10000 (nI s) (nI 0) (nI 0) = some r ∧ r.1 = nI ((s + sF B n) % m) ∧ r.2.1 = nI (sG s B n % m) := by
  have hs0 : (s + sF B 0) % m = s := Nat.mod_eq_of_lt (by show s + 0 < m; omega)
  obtain ⟨r, hr, g1, g2⟩ := loop_inv (F := fun k (x : Int32 × Int32 × Int32) => F k x.1 x.2.1 x.2.2)
    (fun i x => x.1 = nI ((s + sF B i) % m) ∧ x.2.1 = nI (sG s B i % m) ∧ x.2.2 = nI i)
    (fun r => r.1 = nI ((s + sF B n) % m) ∧ r.2.1 = nI (sG s B n % m)) n
    (fun k x h => by
      obtain ⟨l, c, v⟩ := x
      obtain ⟨h1, h2, h3⟩ := h
      have h3 : v = nI n := h3
      subst h3
      exact ⟨_, hs k l c, h1, h2⟩)
    (fun k i x hi h => by
      obtain ⟨l, c, v⟩ := x
      obtain ⟨e1, e2, e3⟩ := h
      have e1 : l = nI ((s + sF B i) % m) := e1
      have e2 : c = nI (sG s B i % m) := e2
      have e3 : v = nI i := e3
      subst e1; subst e2; subst e3
      obtain ⟨b1, b2⟩ := hB i hi
      have q1 : (s + sF B i) % m < m := Nat.mod_lt _ (by omega)
      have q2 : sG s B i % m < m := Nat.mod_lt _ (by omega)
      refine Or.inr ⟨(_, _, _), ht k i _ _ hi, ?_, ?_, rfl⟩
      · show (nI _ + a2 i) - (nI _ + a2 i) / nI m * nI m = _
        rw [b2, nI_add, nI_mod (by omega) (by omega) (by omega)]
        congr 1
        show ((s + sF B i) % m + B i) % m = (s + (sF B i + B i)) % m
        rw [Nat.mod_add_mod, Nat.add_assoc]
      · have e : (nI ((s + sF B i) % m) + a2 i) - (nI ((s + sF B i) % m) + a2 i) / nI m * nI m = nI ((s + sF B (i + 1)) % m) := by
          rw [b2, nI_add, nI_mod (by omega) (by omega) (by omega)]
          congr 1
          show ((s + sF B i) % m + B i) % m = (s + (sF B i + B i)) % m
          rw [Nat.mod_add_mod, Nat.add_assoc]
        have q3 : (s + sF B (i + 1)) % m < m := Nat.mod_lt _ (by omega)
        rw [e]
        show (nI _ + nI _) - (nI _ + nI _) / nI m * nI m = _
        rw [nI_add, nI_mod (by omega) (by omega) (by omega)]
        congr 1
        show (sG s B i % m + (s + sF B (i + 1)) % m) % m = (sG s B i + (s + sF B (i + 1))) % m
        rw [← Nat.add_mod])
    10000 0 (nI s, nI 0, nI 0) ⟨by rw [hs0], by rw [show sG s B 0 = 0 from rfl, Nat.zero_mod], rfl⟩ (Nat.zero_le _) (by omega)
  exact ⟨r, hr, g1, g2⟩
theorem fletM {n : Nat} {B : Nat → Nat} {a49 : Nat → Int32} (hn : n ≤ 64) (hB : ∀ k, k < n → B k < 256 ∧ a49 k = nI (B k)) : ∃ r : Int32 × Int32 × Int32, q_X12_fletcher_L6 (nI n) a49 10000 (nI 0) (nI 0) (nI 0) = some r ∧ r.1 = nI (sF B n) ∧ r.2.1 = nI (sG 0 B n) := by
  obtain ⟨r, hr, g1, g2⟩ := loop_inv (F := fun k (x : Int32 × Int32 × Int32) => q_X12_fletcher_L6 (nI n) a49 k x.1 x.2.1 x.2.2)
    (fun i x => x.1 = nI (sF B i) ∧ x.2.1 = nI (sG 0 B i) ∧ x.2.2 = nI i)
    (fun r => r.1 = nI (sF B n) ∧ r.2.1 = nI (sG 0 B n)) n
    (fun k x h => by
      obtain ⟨l, c, v⟩ := x
      obtain ⟨h1, h2, h3⟩ := h
      have h3 : v = nI n := h3
      subst h3
      refine ⟨_, ?_, h1, h2⟩
      show q_X12_fletcher_L6 _ _ (k + 1) l c (nI n) = _
      rw [q_X12_fletcher_L6, if_pos (nI_le (Nat.le_refl n) (by omega))])
    (fun k i x hi h => by
      obtain ⟨l, c, v⟩ := x
      obtain ⟨e1, e2, e3⟩ := h
      have e1 : l = nI (sF B i) := e1
      have e2 : c = nI (sG 0 B i) := e2
      have e3 : v = nI i := e3
      subst e1; subst e2; subst e3
      obtain ⟨b1, b2⟩ := hB i hi
      refine Or.inr ⟨(nI (sF B (i + 1)), nI (sG 0 B (i + 1)), nI (i + 1)), ?_, rfl, rfl, rfl⟩
      show q_X12_fletcher_L6 _ _ (k + 1) (nI (sF B i)) (nI (sG 0 B i)) (nI i) = q_X12_fletcher_L6 _ _ k _ _ _
      rw [q_X12_fletcher_L6, if_neg (nI_ge hi (by omega)), if_pos (xinI (by omega) (by omega)), nI_clamp (by omega), b2, nI_add, nI_add, nI_1]
      show _ = q_X12_fletcher_L6 _ _ k (nI (sF B i + B i)) (nI (sG 0 B i + (0 + (sF B i + B i)))) _
      rw [Nat.zero_add])
    10000 0 (nI 0, nI 0, nI 0) ⟨rfl, rfl, rfl⟩ (Nat.zero_le _) (by omega)
  exact ⟨r, hr, g1, g2⟩
theorem M_33 : MS_33 := by
  intro S l4 c1_1 a2 c48_17 a49 c3_1 c3_2 c4_0 a5 a6 c48_20 a52 c8_0 c8_1 c8_2 c8_3 c8_4 c8_5 c48_24 c48_25 c48_26 c48_27 c48_28 c7_0 c7_1 c7_2 c7_3 c7_4 c7_5 a10 a11 a53 c17_1 a18 c48_21 a57 c23_4 c24_0 a25 a26 c48_22 a58 a22 x1 x2 x3 x4 x5 hB hP hK h7 hS hD hW hC
  obtain ⟨n, B, hn, rfl, rfl, hB⟩ := hB
  unfold q_case33
  obtain ⟨r, r1, r2, r3⟩ := sumsC (m := 255) (n := n) (s := 0) (B := B) (a2 := a2) (F := q_X11_fletcher_L6 (nI n) a2) (by omega) (by omega) hn (fun k hk => ⟨(hB k hk).1, (hB k hk).2.1⟩)
    (fun f l1 l2 => by rw [q_X11_fletcher_L6, t_X5_size, if_pos (nI_le (Nat.le_refl n) (by omega))])
    (fun f i l1 l2 hi => by rw [q_X11_fletcher_L6, t_X5_size, if_neg (nI_ge hi (by omega)), atI (by omega) (by omega), nI_1]; rfl) (by omega)
  obtain ⟨u, u1, u2, u3⟩ := fletM (a49 := a49) hn (fun k hk => ⟨(hB k hk).1, (hB k hk).2.2⟩)
  have hF := sF_le (fun k hk => (hB k hk).1) n (Nat.le_refl n)
  have hG := sG_le (a := 0) (by omega) hn (fun k hk => (hB k hk).1) n (Nat.le_refl n)
  have e1 : u.2.1 - u.2.1 / 255 * 255 = nI (sG 0 B n % 255) := by rw [u3]; exact nI_mod (b := 255) (by omega) (by omega) (by decide)
  have e2 : u.1 - u.1 / 255 * 255 = nI (sF B n % 255) := by rw [u2]; exact nI_mod (b := 255) (by omega) (by omega) (by decide)
  rw [← k0] at r1 u1
  rw [Nat.zero_add] at r2
  simp only [q_X11_fletcher, q_X12_fletcher, r1, u1, Option.bind_some, t_X12_tells, e1, e2, r2, r3, if_true]
  exact ⟨_, rfl⟩
theorem lN_mod {a b : Nat} (ha : a < 2147483648) (h0 : 0 < b) (hb : b < 2147483648) : lN a - lN a / lN b * lN b = lN (a % b) := by
  have h1 := Nat.div_mul_le_self a b
  have h2 := Nat.div_add_mod a b
  have hq : a / b ≤ a := Nat.div_le_self a b
  have e : lN a / lN b = lN (a / b) := by
    apply Int64.toInt_inj.mp
    rw [Int64.toInt_div, lN_toInt (by omega), lN_toInt (by omega), lN_toInt (by omega)]
    rw [← Int.ofNat_tdiv]
    have e0 : (0 : Int) ≤ ((a / b : Nat) : Int) := Int.natCast_nonneg _
    have e : ((a / b : Nat) : Int) ≤ (a : Int) := by exact_mod_cast hq
    exact Int.bmod_eq_of_le (by omega) (by omega)
  rw [e, lN_mul, lN_sub h1]
  congr 1
  rw [Nat.mul_comm] at h2
  omega
theorem adlM {n : Nat} {B : Nat → Nat} {a49 : Nat → Int32} (hn : n ≤ 64) (hB : ∀ k, k < n → B k < 256 ∧ a49 k = nI (B k)) : ∃ r : Int64 × Int64 × Int32, q_X12_adler_L7 (nI n) a49 10000 (lN 1) (lN 0) (nI 0) = some r ∧ r.1 = lN (1 + sF B n) ∧ r.2.1 = lN (sG 1 B n) := by
  obtain ⟨r, hr, g1, g2⟩ := loop_inv (F := fun k (x : Int64 × Int64 × Int32) => q_X12_adler_L7 (nI n) a49 k x.1 x.2.1 x.2.2)
    (fun i x => x.1 = lN (1 + sF B i) ∧ x.2.1 = lN (sG 1 B i) ∧ x.2.2 = nI i)
    (fun r => r.1 = lN (1 + sF B n) ∧ r.2.1 = lN (sG 1 B n)) n
    (fun k x h => by
      obtain ⟨l, c, v⟩ := x
      obtain ⟨h1, h2, h3⟩ := h
      have h3 : v = nI n := h3
      subst h3
      refine ⟨_, ?_, h1, h2⟩
      show q_X12_adler_L7 _ _ (k + 1) l c (nI n) = _
      rw [q_X12_adler_L7, if_pos (nI_le (Nat.le_refl n) (by omega))])
    (fun k i x hi h => by
      obtain ⟨l, c, v⟩ := x
      obtain ⟨e1, e2, e3⟩ := h
      have e1 : l = lN (1 + sF B i) := e1
      have e2 : c = lN (sG 1 B i) := e2
      have e3 : v = nI i := e3
      subst e1; subst e2; subst e3
      obtain ⟨b1, b2⟩ := hB i hi
      refine Or.inr ⟨(lN (1 + sF B (i + 1)), lN (sG 1 B (i + 1)), nI (i + 1)), ?_, rfl, rfl, rfl⟩
      show q_X12_adler_L7 _ _ (k + 1) (lN (1 + sF B i)) (lN (sG 1 B i)) (nI i) = q_X12_adler_L7 _ _ k _ _ _
      rw [q_X12_adler_L7, if_neg (nI_ge hi (by omega)), if_pos (xinI (by omega) (by omega)), nI_clamp (by omega), b2, nI_l (by omega), lN_add, lN_add, nI_1, Nat.add_assoc 1 (sF B i) (B i)]
      rfl)
    10000 0 (lN 1, lN 0, nI 0) ⟨rfl, rfl, rfl⟩ (Nat.zero_le _) (by omega)
  exact ⟨r, hr, g1, g2⟩
theorem M_34 : MS_34 := by
  intro S l4 c1_1 a2 c48_17 a49 c3_1 c3_2 c4_0 a5 a6 c48_20 a52 c8_0 c8_1 c8_2 c8_3 c8_4 c8_5 c48_24 c48_25 c48_26 c48_27 c48_28 c7_0 c7_1 c7_2 c7_3 c7_4 c7_5 a10 a11 a53 c17_1 a18 c48_21 a57 c23_4 c24_0 a25 a26 c48_22 a58 a22 x1 x2 x3 x4 x5 hB hP hK h7 hS hD hW hC
  obtain ⟨n, B, hn, rfl, rfl, hB⟩ := hB
  unfold q_case34
  obtain ⟨r, r1, r2, r3⟩ := sumsC (m := 65521) (n := n) (s := 1) (B := B) (a2 := a2) (F := q_X11_adler_L6 (nI n) a2) (by omega) (by omega) hn (fun k hk => ⟨(hB k hk).1, (hB k hk).2.1⟩)
    (fun f l1 l2 => by rw [q_X11_adler_L6, t_X5_size, if_pos (nI_le (Nat.le_refl n) (by omega))])
    (fun f i l1 l2 hi => by rw [q_X11_adler_L6, t_X5_size, if_neg (nI_ge hi (by omega)), atI (by omega) (by omega), nI_1]; rfl) (by omega)
  obtain ⟨u, u1, u2, u3⟩ := adlM (a49 := a49) hn (fun k hk => ⟨(hB k hk).1, (hB k hk).2.2⟩)
  have hF := sF_le (fun k hk => (hB k hk).1) n (Nat.le_refl n)
  have hG := sG_le (a := 1) (by omega) hn (fun k hk => (hB k hk).1) n (Nat.le_refl n)
  have e1 : u.2.1 - u.2.1 / 65521 * 65521 = lN (sG 1 B n % 65521) := by rw [u3]; exact lN_mod (b := 65521) (by omega) (by omega) (by decide)
  have e2 : u.1 - u.1 / 65521 * 65521 = lN ((1 + sF B n) % 65521) := by rw [u2]; exact lN_mod (b := 65521) (by omega) (by omega) (by decide)
  have q1 := Nat.mod_lt (sG 1 B n) (show 0 < 65521 by omega)
  have q2 := Nat.mod_lt (1 + sF B n) (show 0 < 65521 by omega)
  have r1' : q_X11_adler_L6 (nI n) a2 10000 1 0 0 = some r := r1
  have u1' : q_X12_adler_L7 (nI n) a49 10000 1 0 0 = some u := u1
  simp only [q_X11_adler, q_X12_adler, r1', u1', Option.bind_some, t_X12_tellsLong, e1, e2, r2, r3, nI_l (show (1 + sF B n) % 65521 < 2 ^ 31 by omega), nI_l (show sG 1 B n % 65521 < 2 ^ 31 by omega), lgs, if_true]
  exact ⟨_, rfl⟩
theorem M_26 : MS_26 := by
  intro S l4 c17_1 a18 a66 c48_21 a57 c1_1 a2 c48_17 a49 c3_1 c3_2 c4_0 a5 a6 c48_20 a52 c8_0 c8_1 c8_2 c8_3 c8_4 c8_5 c48_24 c48_25 c48_26 c48_27 c48_28 c7_0 c7_1 c7_2 c7_3 c7_4 c7_5 a10 a11 a53 c23_4 c24_0 a25 a26 c48_22 a58 a22 x1 x2 x3 x4 x5 hB hP hK h7 hS hD hW hC
  have hD0 := hD
  obtain ⟨n, D, hn, rfl, rfl, hD⟩ := hD
  unfold q_case26
  generalize S.2 (l4 + (1 : Int32)).toNatClampNeg = p1
  rcases cls p1 (n := 10) (by omega) with ⟨v, hv, rfl⟩ | h
  · have g2 : t_X12_in (nI v).toInt64 0 9 = 1 := in_T (by rw [tl, nI_toInt (by omega)]; show (0 : Int) ≤ _; omega) (by rw [tl, nI_toInt (by omega)]; show _ ≤ (9 : Int); omega)
    have c2 : nI v ≤ 9 := nI_le (b := 9) (by omega) (by decide)
    by_cases h18 : n = 18
    · subst h18
      simp only [x1, if_true, q_L_digit, q_X11_digit, if_neg (nI_pos (show v < 2 ^ 31 by omega)), if_pos c2, t_X5_size, if_neg (show ¬ nI 18 < (18 : Int32) by decide), xbnd, Option.bind_some, q_X12_digit, g2, ite10, if_neg (show ¬ ¬ nI 18 = (18 : Int32) from fun h => h rfl), t_X12_fails, t_X12_thrown]
      exact ⟨_, rfl, hD0⟩
    · have c3 : nI n < (18 : Int32) := nI_lt (b := 18) (by omega) (by decide)
      have c4 : ¬ nI n = (18 : Int32) := ne_of_nI (b := 18) h18 (by omega) (by decide)
      simp only [x1, if_true, q_L_digit, q_X11_digit, if_neg (nI_pos (show v < 2 ^ 31 by omega)), if_pos c2, t_X5_size, if_pos c3, appendC (show n < 18 by omega) (show 18 < 2147483648 by omega) (show n < 9999 by omega), xbnd, Option.bind_some, q_X12_digit, g2, ite10, if_pos c4, xinI (show n < 18 by omega) (by decide), nI_clamp (show n < 2 ^ 31 by omega), nI_1, t_X12_tells, t_X12_thrown, ite00, c0, updL_eq, lgs]
      refine ⟨_, rfl, n + 1, fun j => if j = n then v else D j, by omega, rfl, rfl, fun j hj => ?_⟩
      show _ ∧ upd a18 n (nI v) j = _ ∧ upd a57 n (nI v) j = _
      by_cases e : j = n
      · subst e; rw [upd_eq, upd_eq]; simp only [if_true]; exact ⟨hv, trivial, trivial⟩
      · rw [upd_ne e, upd_ne e]; simp only [if_neg e]; exact hD j (by omega)
  · have g2 : t_X12_in p1.toInt64 0 9 = 0 := in_F (by rw [tl]; show _ < (0 : Int) ∨ (9 : Int) < _; omega)
    have e : q_X11_digit p1 (nI n) a18 = some (.inl 0, (nI n, a18)) := by
      unfold q_X11_digit
      by_cases c1 : p1 < 0
      · rw [if_pos c1]
      · rw [if_neg c1]
        rw [ltI, i0] at c1
        rw [if_neg (by rw [leI, show (9 : Int32).toInt = 9 from rfl]; omega)]
    simp only [x1, if_true, q_L_digit, e, xbnd, Option.bind_some, q_X12_digit, g2, ite00, ite10, t_X12_fails, t_X12_thrown]
    exact ⟨_, rfl, hD0⟩
theorem M_27 : MS_27 := by
  intro S l4 c17_1 c48_21 c1_1 a2 c48_17 a49 c3_1 c3_2 c4_0 a5 a6 c48_20 a52 c8_0 c8_1 c8_2 c8_3 c8_4 c8_5 c48_24 c48_25 c48_26 c48_27 c48_28 c7_0 c7_1 c7_2 c7_3 c7_4 c7_5 a10 a11 a53 a18 a57 c23_4 c24_0 a25 a26 c48_22 a58 a22 x1 x2 x3 x4 x5 hB hP hK h7 hS hD hW hC
  obtain ⟨n, D, hn, rfl, rfl, hD⟩ := hD
  unfold q_case27
  simp only [t_X11_clear, t_X12_clear, t_X12_tells, t_X5_size, t_X5_empty, if_true]
  exact ⟨_, rfl, 0, D, by omega, rfl, rfl, fun j hj => absurd hj (Nat.not_lt_zero j)⟩

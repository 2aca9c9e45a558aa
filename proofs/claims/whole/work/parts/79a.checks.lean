/-! Check digits: what each scheme makes, by class and by reference. -/
theorem luhnM {n : Nat} {D : Nat → Nat} {a57 : Nat → Int32} (hn : n ≤ 18) (h0 : 1 ≤ n) (hD : ∀ k, k < n → D k < 10 ∧ a57 k = nI (D k)) : ∃ r : Int32 × Int32, q_X12_checkOf_L9 108 (nI n) a57 10000 0 (nI n - 1) = some r ∧ r.1 = nI (lS D n n % 10) := by
  have key : ∀ k f t, t + k = n → k < f → ∃ r : Int32 × Int32, q_X12_checkOf_L9 108 (nI n) a57 f (nI (lS D n t % 10)) (nI k + (-1)) = some r ∧ r.1 = nI (lS D n n % 10) := by
    intro k
    induction k with
    | zero =>
      intro f t ht hf
      obtain ⟨f, rfl⟩ : ∃ g, f = g + 1 := ⟨f - 1, by omega⟩
      have : t = n := by omega
      subst this
      exact ⟨_, by rw [q_X12_checkOf_L9, if_pos (by decide)], rfl⟩
    | succ k ih =>
      intro f t ht hf
      obtain ⟨f, rfl⟩ : ∃ g, f = g + 1 := ⟨f - 1, by omega⟩
      obtain ⟨d1, d2⟩ := hD k (by omega)
      have es : lS D n (t + 1) = lS D n t + lc (D k) (decide (t % 2 = 0)) := by
        show lS D n t + lc (D (n - 1 - t)) _ = _
        rw [show n - 1 - t = k by omega]
      have hp : nI (t + 1) - nI (t + 1) / 2 * 2 = nI ((t + 1) % 2) := nI_mod (b := 2) (by omega) (by omega) (by omega)
      obtain ⟨r, r1, r2⟩ := ih f (t + 1) (by omega) (by omega)
      refine ⟨r, ?_, r2⟩
      rw [nI_m1 (by omega), show k + 1 - 1 = k by omega, q_X12_checkOf_L9, if_neg (nI_pos (by omega)), if_pos (xinI (by omega) (by omega)), if_neg (show ¬ ¬ (108 : Int32) = 108 from fun h => h rfl), nI_clamp (by omega), d2, nI_sub (by omega), show n - k = t + 1 by omega, hp]
      have hl : ∀ b, lc (D k) b ≤ 9 := lc_le _ d1
      have hm : ∀ b, (nI (lS D n t % 10) + nI (lc (D k) b)) - (nI (lS D n t % 10) + nI (lc (D k) b)) / 10 * 10 = nI ((lS D n t + lc (D k) b) % 10) := by
        intro b
        have := hl b
        have e := nI_mod (a := lS D n t % 10 + lc (D k) b) (b := 10) (by omega) (by omega) (by omega)
        rw [nI_add]
        refine e.trans ?_
        rw [show (lS D n t % 10 + lc (D k) b) % 10 = (lS D n t + lc (D k) b) % 10 by omega]
      by_cases c : t % 2 = 0
      · rw [es, decide_eq_true c] at r1
        rw [show (t + 1) % 2 = 1 by omega, if_neg (show ¬ ¬ nI 1 = (1 : Int32) from fun h => h rfl), lcT _ d1, hm]
        exact r1
      · rw [es, decide_eq_false c] at r1
        rw [show (t + 1) % 2 = 0 by omega, if_pos (show ¬ nI 0 = (1 : Int32) by decide), lcF _ d1, hm]
        exact r1
  obtain ⟨r, r1, r2⟩ := key n 10000 0 (by omega) (by omega)
  refine ⟨r, ?_, r2⟩
  rw [nI_pred' h0, ← nI_m1 h0]
  exact r1
/-- eleven, from the left -/
def eH (D : Nat → Nat) : Nat → Nat
  | 0 => 0
  | k + 1 => (2 * eH D k + 2 * D k) % 11
/-- eleven, from the right -/
def eR (D : Nat → Nat) (n : Nat) : Nat → Nat
  | 0 => 0
  | t + 1 => (eR D n t + D (n - 1 - t) * (2 ^ (t + 1) % 11)) % 11
theorem eH_lt (D : Nat → Nat) : ∀ k, eH D k < 11 := by
  intro k
  cases k with
  | zero => exact (by decide : 0 < 11)
  | succ k => exact Nat.mod_lt _ (by decide)
theorem eR_lt (D : Nat → Nat) (n : Nat) : ∀ k, eR D n k < 11 := by
  intro k
  cases k with
  | zero => exact (by decide : 0 < 11)
  | succ k => exact Nat.mod_lt _ (by decide)
theorem eR_eH (D : Nat → Nat) (n : Nat) : ∀ t, t ≤ n → (eR D n t + 2 ^ t * eH D (n - t)) % 11 = eH D n := by
  intro t
  induction t with
  | zero =>
    intro _
    show (0 + 1 * eH D n) % 11 = _
    have := eH_lt D n
    omega
  | succ t ih =>
    intro h
    rw [← ih (by omega)]
    obtain ⟨m, hm⟩ : ∃ m, n - t = m + 1 := ⟨n - t - 1, by omega⟩
    rw [hm, show n - (t + 1) = m by omega]
    have e1 : eR D n (t + 1) = (eR D n t + D m * (2 ^ (t + 1) % 11)) % 11 := by
      show (eR D n t + D (n - 1 - t) * (2 ^ (t + 1) % 11)) % 11 = _
      rw [show n - 1 - t = m by omega]
    have e2 : eH D (m + 1) = (2 * eH D m + 2 * D m) % 11 := rfl
    have e3 : 2 ^ (t + 1) = 2 * 2 ^ t := by rw [Nat.pow_succ, Nat.mul_comm]
    rw [e1, e3]
    generalize hP : 2 ^ t = P
    have h1 : D m * (2 * P) = D m * ((2 * P) % 11) + 11 * (D m * ((2 * P) / 11)) := by
      rw [Nat.mul_left_comm 11, ← Nat.mul_add, Nat.mod_add_div]
    have h2 : P * (2 * eH D m + 2 * D m) = P * eH D (m + 1) + 11 * (P * ((2 * eH D m + 2 * D m) / 11)) := by
      rw [e2]
      generalize 2 * eH D m + 2 * D m = X
      rw [Nat.mul_left_comm 11, ← Nat.mul_add, Nat.mod_add_div]
    have h3 : D m * (2 * P) = 2 * (P * D m) := by rw [Nat.mul_left_comm, Nat.mul_comm (D m)]
    have h4 : P * (2 * eH D m + 2 * D m) = 2 * (P * eH D m) + 2 * (P * D m) := by rw [Nat.mul_add, Nat.mul_left_comm P 2, Nat.mul_left_comm P 2]
    have h5 : 2 * P * eH D m = 2 * (P * eH D m) := Nat.mul_assoc _ _ _
    rw [h5]
    generalize D m * (2 * P % 11) = u1 at *
    generalize D m * (2 * P / 11) = u2 at *
    generalize P * ((2 * eH D m + 2 * D m) / 11) = u3 at *
    generalize P * eH D (m + 1) = u4 at *
    generalize P * eH D m = u5 at *
    generalize P * D m = u6 at *
    omega
theorem elevenC {n : Nat} {D : Nat → Nat} {a18 : Nat → Int32} (hn : n ≤ 18) (hD : ∀ k, k < n → D k < 10 ∧ a18 k = nI (D k)) : q_X6_checkByEleven (nI n) 18 a18 = some (nI ((11 - eH D n) % 11)) := by
  obtain ⟨r, hr, e⟩ := loop_inv (F := fun f (z : Int32 × Int32) => q_X6_checkByEleven_L4 (nI n) 18 a18 f z.1 z.2)
    (fun j z => z = (nI (eH D j), nI j)) (fun r => r.1 = nI (eH D n)) n
    (fun f z hz => by
      subst hz
      exact ⟨_, by show q_X6_checkByEleven_L4 _ _ _ (f + 1) (nI _) (nI n) = _; rw [q_X6_checkByEleven_L4, show t_X5_size (nI n) = nI n from rfl, if_pos (nI_le (Nat.le_refl _) (by omega))], rfl⟩)
    (fun f j z hj hz => by
      subst hz
      refine Or.inr ⟨_, ?_, rfl⟩
      obtain ⟨d1, d2⟩ := hD j hj
      have hl := eH_lt D j
      have em : (nI (2 * eH D j + 2 * D j)) - (nI (2 * eH D j + 2 * D j)) / 11 * 11 = nI ((2 * eH D j + 2 * D j) % 11) := nI_mod (b := 11) (by omega) (by omega) (by omega)
      show q_X6_checkByEleven_L4 _ _ _ (f + 1) (nI _) (nI j) = q_X6_checkByEleven_L4 _ _ _ f (nI (eH D (j + 1))) (nI (j + 1))
      rw [q_X6_checkByEleven_L4, show t_X5_size (nI n) = nI n from rfl, if_neg (nI_ge hj (by omega)), atI (by omega) (by omega), d2, show (2 : Int32) * nI (eH D j) = nI (2 * eH D j) from nI_mul 2 _, show (2 : Int32) * nI (D j) = nI (2 * D j) from nI_mul 2 _, nI_add, em, nI_1]
      rfl)
    10000 0 (nI 0, nI 0) rfl (Nat.zero_le _) (by omega)
  have hr' : q_X6_checkByEleven_L4 (nI n) 18 a18 10000 0 0 = some r := hr
  unfold q_X6_checkByEleven
  have hl := eH_lt D n
  have em : (nI (11 - eH D n)) - (nI (11 - eH D n)) / 11 * 11 = nI ((11 - eH D n) % 11) := nI_mod (b := 11) (by omega) (by omega) (by omega)
  rw [hr', Option.bind_some, e, show (11 : Int32) - nI (eH D n) = nI (11 - eH D n) from nI_sub (a := 11) (by omega), em]
theorem twosM {m : Nat} (hm : m ≤ 18) : ∃ r : Int32 × Int32, q_X12_checkOf_L92 (nI m) 10000 1 0 = some r ∧ r.1 = nI (2 ^ m % 11) := by
  obtain ⟨r, hr, e⟩ := loop_inv (F := fun f (z : Int32 × Int32) => q_X12_checkOf_L92 (nI m) f z.1 z.2)
    (fun j z => z = (nI (2 ^ j % 11), nI j)) (fun r => r.1 = nI (2 ^ m % 11)) m
    (fun f z hz => by
      subst hz
      exact ⟨_, by show q_X12_checkOf_L92 _ (f + 1) (nI _) (nI m) = _; rw [q_X12_checkOf_L92, if_pos (nI_le (Nat.le_refl _) (by omega))], rfl⟩)
    (fun f j z hj hz => by
      subst hz
      refine Or.inr ⟨(nI (2 ^ (j + 1) % 11), nI (j + 1)), ?_, rfl⟩
      have hl : 2 ^ j % 11 < 11 := Nat.mod_lt _ (by decide)
      have em : (nI (2 ^ j % 11 * 2)) - (nI (2 ^ j % 11 * 2)) / 11 * 11 = nI (2 ^ j % 11 * 2 % 11) := nI_mod (b := 11) (by omega) (by omega) (by omega)
      show q_X12_checkOf_L92 _ (f + 1) (nI _) (nI j) = q_X12_checkOf_L92 _ f (nI (2 ^ (j + 1) % 11)) (nI (j + 1))
      rw [q_X12_checkOf_L92, if_neg (nI_ge hj (by omega)), show nI (2 ^ j % 11) * (2 : Int32) = nI (2 ^ j % 11 * 2) from nI_mul _ 2, em, nI_1, show 2 ^ j % 11 * 2 % 11 = 2 ^ (j + 1) % 11 by rw [Nat.pow_succ]; omega])
    10000 0 (nI 1, nI 0) rfl (Nat.zero_le _) (by omega)
  exact ⟨r, hr, e⟩
theorem elevenM {n : Nat} {D : Nat → Nat} {a57 : Nat → Int32} (hn : n ≤ 18) (h0 : 1 ≤ n) (hD : ∀ k, k < n → D k < 10 ∧ a57 k = nI (D k)) : ∃ r : Int32 × Int32, q_X12_checkOf_L9 101 (nI n) a57 10000 0 (nI n - 1) = some r ∧ r.1 = nI (eH D n) := by
  have key : ∀ k f t, t + k = n → k < f → ∃ r : Int32 × Int32, q_X12_checkOf_L9 101 (nI n) a57 f (nI (eR D n t)) (nI k + (-1)) = some r ∧ r.1 = nI (eR D n n) := by
    intro k
    induction k with
    | zero =>
      intro f t ht hf
      obtain ⟨f, rfl⟩ : ∃ g, f = g + 1 := ⟨f - 1, by omega⟩
      have : t = n := by omega
      subst this
      exact ⟨_, by rw [q_X12_checkOf_L9, if_pos (by decide)], rfl⟩
    | succ k ih =>
      intro f t ht hf
      obtain ⟨f, rfl⟩ : ∃ g, f = g + 1 := ⟨f - 1, by omega⟩
      obtain ⟨d1, d2⟩ := hD k (by omega)
      have es : eR D n (t + 1) = (eR D n t + D k * (2 ^ (t + 1) % 11)) % 11 := by
        show (eR D n t + D (n - 1 - t) * (2 ^ (t + 1) % 11)) % 11 = _
        rw [show n - 1 - t = k by omega]
      obtain ⟨r, r1, r2⟩ := ih f (t + 1) (by omega) (by omega)
      obtain ⟨s, s1, s2⟩ := twosM (m := t + 1) (by omega)
      refine ⟨r, ?_, r2⟩
      have hl := eR_lt D n t
      have hl2 : 2 ^ (t + 1) % 11 < 11 := Nat.mod_lt _ (by decide)
      have hl3 : D k * (2 ^ (t + 1) % 11) ≤ 9 * 11 := Nat.mul_le_mul (by omega) (by omega)
      have em : (nI (eR D n t + D k * (2 ^ (t + 1) % 11))) - (nI (eR D n t + D k * (2 ^ (t + 1) % 11))) / 11 * 11 = nI ((eR D n t + D k * (2 ^ (t + 1) % 11)) % 11) := nI_mod (b := 11) (by omega) (by omega) (by omega)
      rw [nI_m1 (by omega), show k + 1 - 1 = k by omega, q_X12_checkOf_L9, if_neg (nI_pos (by omega)), if_pos (xinI (by omega) (by omega)), if_pos (show ¬ (101 : Int32) = 108 by decide), if_neg (show ¬ ¬ (101 : Int32) = 101 from fun h => h rfl), nI_clamp (by omega), d2, nI_sub (by omega), show n - k = t + 1 by omega, s1, Option.bind_some, s2, nI_mul, nI_add, em, ← es]
      exact r1
  obtain ⟨r, r1, r2⟩ := key n 10000 0 (by omega) (by omega)
  refine ⟨r, ?_, ?_⟩
  · rw [nI_pred' h0, ← nI_m1 h0]
    exact r1
  · rw [r2]
    have := eR_eH D n n (Nat.le_refl _)
    rw [Nat.sub_self] at this
    rw [← this]
    show nI (eR D n n) = nI ((eR D n n + 2 ^ n * 0) % 11)
    rw [Nat.mul_zero, Nat.add_zero, Nat.mod_eq_of_lt (eR_lt D n n)]
/-- the product of the group of ten -/
def pTen (a b : Nat) : Nat := if a < 5 then (if b < 5 then (a + b) % 5 else (a + b) % 5 + 5) else (if b < 5 then (a + 10 - b) % 5 + 5 else (a + 10 - b) % 5)
theorem pTen_lt (a b : Nat) : pTen a b < 10 := by
  unfold pTen
  split <;> split <;> omega
theorem sg_lt (x : Nat) (h : x < 10) : sg x < 10 := by
  revert h x
  decide
theorem sgN_lt (t : Nat) {x : Nat} (h : x < 10) : sgN t x < 10 := by
  induction t with
  | zero => exact h
  | succ t ih => exact sg_lt _ ih
theorem prC : ∀ a, a < 10 → ∀ b, b < 10 → t_X6_productOf (nI a) (nI b) = nI (pTen a b) := by decide +kernel
theorem prM : ∀ a, a < 10 → ∀ b, b < 10 → t_X12_product (nI a) (nI b) = nI (pTen a b) := by decide +kernel
theorem nxM : ∀ a, a < 10 → t_X12_next (nI a) = nI (sg a) := by decide +kernel
theorem turnM {t d : Nat} (hd : d < 10) (ht : t ≤ 18) : q_X12_turned (nI d) (nI t) = some (nI (sgN t d)) := by
  obtain ⟨r, hr, e⟩ := loop_inv (F := fun f (z : Int32 × Int32) => q_X12_turned_L4 (nI t) f z.1 z.2)
    (fun j z => z = (nI (sgN j d), nI j)) (fun r => r.1 = nI (sgN t d)) t
    (fun f z hz => by
      subst hz
      exact ⟨_, by show q_X12_turned_L4 _ (f + 1) (nI _) (nI t) = _; rw [q_X12_turned_L4, if_pos (nI_le (Nat.le_refl _) (by omega))], rfl⟩)
    (fun f j z hj hz => by
      subst hz
      refine Or.inr ⟨(nI (sgN (j + 1) d), nI (j + 1)), ?_, rfl⟩
      show q_X12_turned_L4 _ (f + 1) (nI _) (nI j) = q_X12_turned_L4 _ f (nI (sg (sgN j d))) (nI (j + 1))
      rw [q_X12_turned_L4, if_neg (nI_ge hj (by omega)), nxM _ (sgN_lt j hd), nI_1])
    10000 0 (nI d, nI 0) rfl (Nat.zero_le _) (by omega)
  have hr' : q_X12_turned_L4 (nI t) 10000 (nI d) 0 = some r := hr
  unfold q_X12_turned
  rw [hr', Option.bind_some, e]
/-- ten, from the right -/
def tS (D : Nat → Nat) (n : Nat) : Nat → Nat
  | 0 => 0
  | t + 1 => pTen (tS D n t) (sgN (t + 1) (D (n - 1 - t)))
theorem tS_lt (D : Nat → Nat) (n : Nat) : ∀ t, tS D n t < 10 := by
  intro t
  cases t with
  | zero => exact (by decide : 0 < 10)
  | succ t => exact pTen_lt _ _
theorem tenC {n : Nat} {D : Nat → Nat} {a18 a22 : Nat → Int32} (hn : n ≤ 18) (h0 : 1 ≤ n) (hC : ICo a22) (hD : ∀ k, k < n → D k < 10 ∧ a18 k = nI (D k)) : ∃ r : Int32 × Int32, q_X6_checkByTen_L9 (nI n) 18 a18 a22 10000 0 (nI n - 1) = some r ∧ r.1 = nI (tS D n n) := by
  have key : ∀ k f t, t + k = n → k < f → ∃ r : Int32 × Int32, q_X6_checkByTen_L9 (nI n) 18 a18 a22 f (nI (tS D n t)) (nI k + (-1)) = some r ∧ r.1 = nI (tS D n n) := by
    intro k
    induction k with
    | zero =>
      intro f t ht hf
      obtain ⟨f, rfl⟩ : ∃ g, f = g + 1 := ⟨f - 1, by omega⟩
      have : t = n := by omega
      subst this
      exact ⟨_, by rw [q_X6_checkByTen_L9, if_pos (by decide)], rfl⟩
    | succ k ih =>
      intro f t ht hf
      obtain ⟨f, rfl⟩ : ∃ g, f = g + 1 := ⟨f - 1, by omega⟩
      obtain ⟨d1, d2⟩ := hD k (by omega)
      have es : tS D n (t + 1) = pTen (tS D n t) (sgN (t + 1) (D k)) := by
        show pTen (tS D n t) (sgN (t + 1) (D (n - 1 - t))) = _
        rw [show n - 1 - t = k by omega]
      obtain ⟨r, r1, r2⟩ := ih f (t + 1) (by omega) (by omega)
      refine ⟨r, ?_, r2⟩
      have ec := hC (10 * (t + 1) + D k) (by omega)
      rw [show (10 * (t + 1) + D k) / 10 = t + 1 by omega, show (10 * (t + 1) + D k) % 10 = D k by omega] at ec
      rw [nI_m1 (by omega), show k + 1 - 1 = k by omega, q_X6_checkByTen_L9, if_neg (nI_pos (by omega)), atI (by omega) (by omega), d2, show t_X5_size (nI n) = nI n from rfl, nI_sub (by omega), show n - k = t + 1 by omega, show (10 : Int32) * nI (t + 1) = nI (10 * (t + 1)) from nI_mul 10 _, nI_add, if_neg (nI_pos (by omega)), if_neg (nI_ge (by omega) (by omega)), nI_clamp (by omega), ec, prC _ (tS_lt D n t) _ (sgN_lt _ d1), ← es]
      exact r1
  obtain ⟨r, r1, r2⟩ := key n 10000 0 (by omega) (by omega)
  refine ⟨r, ?_, r2⟩
  rw [nI_pred' h0, ← nI_m1 h0]
  exact r1
theorem tenM {n : Nat} {D : Nat → Nat} {a57 : Nat → Int32} (hn : n ≤ 18) (h0 : 1 ≤ n) (hD : ∀ k, k < n → D k < 10 ∧ a57 k = nI (D k)) : ∃ r : Int32 × Int32, q_X12_checkOf_L9 116 (nI n) a57 10000 0 (nI n - 1) = some r ∧ r.1 = nI (tS D n n) := by
  have key : ∀ k f t, t + k = n → k < f → ∃ r : Int32 × Int32, q_X12_checkOf_L9 116 (nI n) a57 f (nI (tS D n t)) (nI k + (-1)) = some r ∧ r.1 = nI (tS D n n) := by
    intro k
    induction k with
    | zero =>
      intro f t ht hf
      obtain ⟨f, rfl⟩ : ∃ g, f = g + 1 := ⟨f - 1, by omega⟩
      have : t = n := by omega
      subst this
      exact ⟨_, by rw [q_X12_checkOf_L9, if_pos (by decide)], rfl⟩
    | succ k ih =>
      intro f t ht hf
      obtain ⟨f, rfl⟩ : ∃ g, f = g + 1 := ⟨f - 1, by omega⟩
      obtain ⟨d1, d2⟩ := hD k (by omega)
      have es : tS D n (t + 1) = pTen (tS D n t) (sgN (t + 1) (D k)) := by
        show pTen (tS D n t) (sgN (t + 1) (D (n - 1 - t))) = _
        rw [show n - 1 - t = k by omega]
      obtain ⟨r, r1, r2⟩ := ih f (t + 1) (by omega) (by omega)
      refine ⟨r, ?_, r2⟩
      rw [nI_m1 (by omega), show k + 1 - 1 = k by omega, q_X12_checkOf_L9, if_neg (nI_pos (by omega)), if_pos (xinI (by omega) (by omega)), if_pos (show ¬ (116 : Int32) = 108 by decide), if_pos (show ¬ (116 : Int32) = 101 by decide), if_neg (show ¬ ¬ (116 : Int32) = 116 from fun h => h rfl), nI_clamp (by omega), d2, nI_sub (by omega), show n - k = t + 1 by omega, turnM d1 (by omega), Option.bind_some, prM _ (tS_lt D n t) _ (sgN_lt _ d1), ← es]
      exact r1
  obtain ⟨r, r1, r2⟩ := key n 10000 0 (by omega) (by omega)
  refine ⟨r, ?_, r2⟩
  rw [nI_pred' h0, ← nI_m1 h0]
  exact r1
theorem skipM {n : Nat} {a57 : Nat → Int32} (hn : n ≤ 18) (h0 : 1 ≤ n) : ∃ r : Int32 × Int32, q_X12_checkOf_L9 110 (nI n) a57 10000 0 (nI n - 1) = some r := by
  have key : ∀ k f, k ≤ n → k < f → ∃ r : Int32 × Int32, q_X12_checkOf_L9 110 (nI n) a57 f 0 (nI k + (-1)) = some r := by
    intro k
    induction k with
    | zero =>
      intro f ht hf
      obtain ⟨f, rfl⟩ : ∃ g, f = g + 1 := ⟨f - 1, by omega⟩
      exact ⟨_, by rw [q_X12_checkOf_L9, if_pos (by decide)]⟩
    | succ k ih =>
      intro f ht hf
      obtain ⟨f, rfl⟩ : ∃ g, f = g + 1 := ⟨f - 1, by omega⟩
      obtain ⟨r, r1⟩ := ih f (by omega) (by omega)
      refine ⟨r, ?_⟩
      rw [nI_m1 (by omega), show k + 1 - 1 = k by omega, q_X12_checkOf_L9, if_neg (nI_pos (by omega)), if_pos (xinI (by omega) (by omega)), if_pos (show ¬ (110 : Int32) = 108 by decide), if_pos (show ¬ (110 : Int32) = 101 by decide), if_pos (show ¬ (110 : Int32) = 116 by decide)]
      exact r1
  obtain ⟨r, r1⟩ := key n 10000 (Nat.le_refl _) (by omega)
  refine ⟨r, ?_⟩
  rw [nI_pred' h0, ← nI_m1 h0]
  exact r1
/-- the digit whose product with one is 0 -/
def tC (a : Nat) : Nat := if a = 0 then 0 else if a < 5 then 5 - a else a
theorem ten69 : ∀ a, a < 10 → q_X6_checkByTen_L69 (nI a) 10000 0 = some (Sum.inr (nI (tC a))) := by decide +kernel
theorem ten188 : ∀ a, a < 10 → q_X12_checkOf_L188 (nI a) 10000 0 = some (nI (tC a)) := by decide +kernel
/-- the check of digits by a scheme -/
def ckN (sc : Int32) (n : Nat) (D : Nat → Nat) : Nat := if sc = 108 then (10 - lS D n n % 10) % 10 else if sc = 101 then (11 - eH D n) % 11 else if sc = 110 then 98 - 100 * n97 D n % 97 else tC (tS D n n)
theorem ckC {sc : Int32} {n : Nat} {D : Nat → Nat} {a18 a22 : Nat → Int32} (hs : sc = 108 ∨ sc = 101 ∨ sc = 110 ∨ sc = 116) (hn : n ≤ 18) (h0 : 1 ≤ n) (hC : ICo a22) (hD : ∀ k, k < n → D k < 10 ∧ a18 k = nI (D k)) : q_X6_checkOf sc (nI n) 18 a18 a22 = some (nI (ckN sc n D)) := by
  rcases hs with rfl | rfl | rfl | rfl
  · obtain ⟨r, r1, r2⟩ := luhnC hn h0 hD
    have hl := lS_le (D := D) (n := n) (fun k hk => (hD k hk).1) n (Nat.le_refl _)
    have e1 : (nI (lS D n n)) - (nI (lS D n n)) / 10 * 10 = nI (lS D n n % 10) := nI_mod (b := 10) (by omega) (by omega) (by omega)
    have e2 : (10 : Int32) - nI (lS D n n % 10) = nI (10 - lS D n n % 10) := nI_sub (a := 10) (by omega)
    have e3 : (nI (10 - lS D n n % 10)) - (nI (10 - lS D n n % 10)) / 10 * 10 = nI ((10 - lS D n n % 10) % 10) := nI_mod (b := 10) (by omega) (by omega) (by omega)
    unfold q_X6_checkOf q_X6_checkByDoubling
    rw [if_neg (show ¬ ¬ (108 : Int32) = 108 from fun h => h rfl), show t_X5_size (nI n) = nI n from rfl, r1, Option.bind_some, r2, e1, e2, e3]
    rfl
  · unfold q_X6_checkOf
    rw [if_pos (show ¬ (101 : Int32) = 108 by decide), if_neg (show ¬ ¬ (101 : Int32) = 101 from fun h => h rfl), elevenC hn hD]
    rfl
  · unfold q_X6_checkOf
    rw [if_pos (show ¬ (110 : Int32) = 108 by decide), if_pos (show ¬ (110 : Int32) = 101 by decide), if_neg (show ¬ ¬ (110 : Int32) = 110 from fun h => h rfl), c97C hn hD]
    rfl
  · obtain ⟨r, r1, r2⟩ := tenC hn h0 hC hD
    unfold q_X6_checkOf q_X6_checkByTen
    rw [if_pos (show ¬ (116 : Int32) = 108 by decide), if_pos (show ¬ (116 : Int32) = 101 by decide), if_pos (show ¬ (116 : Int32) = 110 by decide), show t_X5_size (nI n) = nI n from rfl, r1, Option.bind_some, r2, ten69 _ (tS_lt D n n)]
    rfl
theorem ckM {sc : Int32} {n : Nat} {D : Nat → Nat} {a57 : Nat → Int32} (hs : sc = 108 ∨ sc = 101 ∨ sc = 110 ∨ sc = 116) (hn : n ≤ 18) (h0 : 1 ≤ n) (hD : ∀ k, k < n → D k < 10 ∧ a57 k = nI (D k)) : q_X12_checkOf sc (nI n) a57 = some (nI (ckN sc n D)) := by
  rcases hs with rfl | rfl | rfl | rfl
  · obtain ⟨r, r1, r2⟩ := luhnM hn h0 hD
    have e2 : (10 : Int32) - nI (lS D n n % 10) = nI (10 - lS D n n % 10) := nI_sub (a := 10) (by omega)
    have e3 : (nI (10 - lS D n n % 10)) - (nI (10 - lS D n n % 10)) / 10 * 10 = nI ((10 - lS D n n % 10) % 10) := nI_mod (b := 10) (by omega) (by omega) (by omega)
    unfold q_X12_checkOf
    rw [r1, Option.bind_some, if_neg (show ¬ ¬ (108 : Int32) = 108 from fun h => h rfl), r2, e2, e3]
    rfl
  · obtain ⟨r, r1, r2⟩ := elevenM hn h0 hD
    have hl := eH_lt D n
    have e2 : (11 : Int32) - nI (eH D n) = nI (11 - eH D n) := nI_sub (a := 11) (by omega)
    have e3 : (nI (11 - eH D n)) - (nI (11 - eH D n)) / 11 * 11 = nI ((11 - eH D n) % 11) := nI_mod (b := 11) (by omega) (by omega) (by omega)
    unfold q_X12_checkOf
    rw [r1, Option.bind_some, if_pos (show ¬ (101 : Int32) = 108 by decide), if_neg (show ¬ ¬ (101 : Int32) = 101 from fun h => h rfl), r2, e2, e3]
    rfl
  · obtain ⟨r, r1⟩ := skipM (n := n) (a57 := a57) hn h0
    obtain ⟨s, s1, s2⟩ := c97M hn hD
    unfold q_X12_checkOf
    rw [r1, Option.bind_some, if_pos (show ¬ (110 : Int32) = 108 by decide), if_pos (show ¬ (110 : Int32) = 101 by decide), if_pos (show ¬ (110 : Int32) = 116 by decide), s1, Option.bind_some, s2]
    rfl
  · obtain ⟨r, r1, r2⟩ := tenM hn h0 hD
    unfold q_X12_checkOf
    rw [r1, Option.bind_some, if_pos (show ¬ (116 : Int32) = 108 by decide), if_pos (show ¬ (116 : Int32) = 101 by decide), if_neg (show ¬ ¬ (116 : Int32) = 116 from fun h => h rfl), r2, ten188 _ (tS_lt D n n)]
    rfl
/-! Which chars are schemes and slips. -/
theorem schT {sc : Int32} (hs : sc = 108 ∨ sc = 101 ∨ sc = 110 ∨ sc = 116) : q_X11_requireScheme sc = some (.inr (), ()) := by
  rcases hs with rfl | rfl | rfl | rfl <;> decide +kernel
theorem schF {sc : Int32} (hs : ¬ (sc = 108 ∨ sc = 101 ∨ sc = 110 ∨ sc = 116)) : q_X11_requireScheme sc = some (.inl 0, ()) := by
  have step : ∀ j f, j < 4 → q_X11_requireScheme_L9 sc (nI 4) (f + 1) (nI j) = q_X11_requireScheme_L9 sc (nI 4) f (nI (j + 1)) := by
    intro j f hj
    have this : ¬ ([108, 101, 110, 116] : List Int32).getD j 0 = sc := by
      match j, hj with
      | 0, _ => exact fun e => hs (Or.inl e.symm)
      | 1, _ => exact fun e => hs (Or.inr (Or.inl e.symm))
      | 2, _ => exact fun e => hs (Or.inr (Or.inr (Or.inl e.symm)))
      | 3, _ => exact fun e => hs (Or.inr (Or.inr (Or.inr e.symm)))
    rw [q_X11_requireScheme_L9, if_neg (nI_ge hj (by decide)), if_pos (xinI hj (by decide)), nI_clamp (by omega), nI_1]
    exact if_pos this
  have e : ∀ f, q_X11_requireScheme_L9 sc (nI 4) (f + 5) (nI 0) = some (Sum.inl (nI 4)) := by
    intro f
    rw [step 0 (f + 4) (by omega), step 1 (f + 3) (by omega), step 2 (f + 2) (by omega), step 3 (f + 1) (by omega), q_X11_requireScheme_L9, if_pos (by decide)]
  have e' : q_X11_requireScheme_L9 sc (nI 4) 10000 0 = some (Sum.inl (nI 4)) := e 9995
  unfold q_X11_requireScheme
  rw [e']
  rfl
theorem smT {sc : Int32} (hs : sc = 108 ∨ sc = 101 ∨ sc = 110 ∨ sc = 116) : t_X12_isScheme sc = 1 := by
  rcases hs with rfl | rfl | rfl | rfl <;> decide
theorem smF {sc : Int32} (hs : ¬ (sc = 108 ∨ sc = 101 ∨ sc = 110 ∨ sc = 116)) : t_X12_isScheme sc = 0 := by
  unfold t_X12_isScheme
  rw [if_neg (fun e => hs (Or.inl e)), if_neg (fun e => hs (Or.inr (Or.inl e))), if_neg (fun e => hs (Or.inr (Or.inr (Or.inl e)))), if_pos (fun e => hs (Or.inr (Or.inr (Or.inr e))))]
theorem nz {n : Nat} (h : ¬ n = 0) (hn : n < 2147483648) : ¬ nI n = (0 : Int32) := ne_of_nI (b := 0) h hn (by decide)
theorem rqdT {n : Nat} (h0 : ¬ n = 0) (hn : n ≤ 18) : q_X11_requireDigits (nI n) = some (.inr (), ()) := by
  unfold q_X11_requireDigits
  rw [show t_X5_size (nI n) = nI n from rfl, if_pos (nz h0 (by omega))]
theorem M_28 : MS_28 := by
  intro S l4 c17_1 a18 a22 a66 c48_21 a57 c1_1 a2 c48_17 a49 c3_1 c3_2 c4_0 a5 a6 c48_20 a52 c8_0 c8_1 c8_2 c8_3 c8_4 c8_5 c48_24 c48_25 c48_26 c48_27 c48_28 c7_0 c7_1 c7_2 c7_3 c7_4 c7_5 a10 a11 a53 c23_4 c24_0 a25 a26 c48_22 a58 x1 x2 x3 x4 x5 hB hP hK h7 hS hD hW hC
  obtain ⟨n, D, hn, rfl, rfl, hD⟩ := hD
  unfold q_case28
  generalize (((S.2 (l4 + (1 : Int32)).toNatClampNeg).toUInt32 % 65536).toInt32) = sc
  by_cases hs : sc = 108 ∨ sc = 101 ∨ sc = 110 ∨ sc = 116
  · by_cases h0 : n = 0
    · subst h0
      have e1 : q_X11_check sc (nI 0) a18 a22 = some (.inl 3, ()) := by
        unfold q_X11_check
        rw [schT hs]
        rfl
      have e2 : q_X12_check sc (nI 0) a57 = some (0, 2) := by
        unfold q_X12_check
        rw [smT hs, ite10]
        rfl
      simp only [x1, if_true, q_L_check, e1, xbnd, Option.bind_some, e2, t_X12_thrown]
      exact ⟨_, rfl⟩
    · have e1 : q_X11_check sc (nI n) a18 a22 = some (.inr (nI (ckN sc n D)), ()) := by
        unfold q_X11_check
        rw [schT hs]
        simp only [xbnd, rqdT h0 hn, ckC hs hn (by omega) hC (fun k hk => ⟨(hD k hk).1, (hD k hk).2.1⟩), Option.bind_some]
      have e2 : q_X12_check sc (nI n) a57 = some (nI (ckN sc n D), 0) := by
        unfold q_X12_check
        rw [smT hs, ite10, if_pos (nz h0 (by omega)), ckM hs hn (by omega) (fun k hk => ⟨(hD k hk).1, (hD k hk).2.2⟩)]
        rfl
      simp only [x1, if_true, q_L_check, e1, xbnd, Option.bind_some, e2, t_X12_thrown, ite00, c0, updL_eq, lgs]
      exact ⟨_, rfl⟩
  · have e1 : q_X11_check sc (nI n) a18 a22 = some (.inl 0, ()) := by
      unfold q_X11_check
      rw [schF hs]
      rfl
    have e2 : q_X12_check sc (nI n) a57 = some (0, 1) := by
      unfold q_X12_check
      rw [smF hs, ite00]
      rfl
    simp only [x1, if_true, q_L_check, e1, xbnd, Option.bind_some, e2, t_X12_thrown]
    exact ⟨_, rfl⟩

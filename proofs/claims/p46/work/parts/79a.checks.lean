/-! Check digits: what each scheme makes, by class and by reference. -/
/-- eleven, from the left -/
def eH (D : Nat → Nat) : Nat → Nat
  | 0 => 0
  | k + 1 => (2 * eH D k + 2 * D k) % 11
/-- eleven, from the right -/
def eR (D : Nat → Nat) (n : Nat) : Nat → Nat
  | 0 => 0
  | t + 1 => (eR D n t + D (n - 1 - t) * (2 ^ (t + 1) % 11)) % 11
theorem eH_lt (D : Nat → Nat) : ∀ k, eH D k < 11 := by
  intro k
  cases k with
  | zero => exact (by decide : 0 < 11)
  | succ k => exact Nat.mod_lt _ (by decide)
theorem eR_lt (D : Nat → Nat) (n : Nat) : ∀ k, eR D n k < 11 := by
  intro k
  cases k with
  | zero => exact (by decide : 0 < 11)
  | succ k => exact Nat.mod_lt _ (by decide)
theorem eR_eH (D : Nat → Nat) (n : Nat) : ∀ t, t ≤ n → (eR D n t + 2 ^ t * eH D (n - t)) % 11 = eH D n := by
  intro t
  induction t with
  | zero =>
    intro _
    show (0 + 1 * eH D n) % 11 = _
    have := eH_lt D n
    omega
  | succ t ih =>
    intro h
    rw [← ih (by omega)]
    obtain ⟨m, hm⟩ : ∃ m, n - t = m + 1 := ⟨n - t - 1, by omega⟩
    rw [hm, show n - (t + 1) = m by omega]
    have e1 : eR D n (t + 1) = (eR D n t + D m * (2 ^ (t + 1) % 11)) % 11 := by
      show (eR D n t + D (n - 1 - t) * (2 ^ (t + 1) % 11)) % 11 = _
      rw [show n - 1 - t = m by omega]
    have e2 : eH D (m + 1) = (2 * eH D m + 2 * D m) % 11 := rfl
    have e3 : 2 ^ (t + 1) = 2 * 2 ^ t := by rw [Nat.pow_succ, Nat.mul_comm]
    rw [e1, e3]
    generalize hP : 2 ^ t = P
    have h1 : D m * (2 * P) = D m * ((2 * P) % 11) + 11 * (D m * ((2 * P) / 11)) := by
      rw [Nat.mul_left_comm 11, ← Nat.mul_add, Nat.mod_add_div]
    have h2 : P * (2 * eH D m + 2 * D m) = P * eH D (m + 1) + 11 * (P * ((2 * eH D m + 2 * D m) / 11)) := by
      rw [e2]
      generalize 2 * eH D m + 2 * D m = X
      rw [Nat.mul_left_comm 11, ← Nat.mul_add, Nat.mod_add_div]
    have h3 : D m * (2 * P) = 2 * (P * D m) := by rw [Nat.mul_left_comm, Nat.mul_comm (D m)]
    have h4 : P * (2 * eH D m + 2 * D m) = 2 * (P * eH D m) + 2 * (P * D m) := by rw [Nat.mul_add, Nat.mul_left_comm P 2, Nat.mul_left_comm P 2]
    have h5 : 2 * P * eH D m = 2 * (P * eH D m) := Nat.mul_assoc _ _ _
    rw [h5]
    generalize D m * (2 * P % 11) = u1 at *
    generalize D m * (2 * P / 11) = u2 at *
    generalize P * ((2 * eH D m + 2 * D m) / 11) = u3 at *
    generalize P * eH D (m + 1) = u4 at *
    generalize P * eH D m = u5 at *
    generalize P * D m = u6 at *
    omega
theorem elevenC {n : Nat} {D : Nat → Nat} {a18 : Nat → Int32} (hn : n ≤ 18) (hD : ∀ k, k < n → D k < 10 ∧ a18 k = nI (D k)) : q_X6_checkByEleven (nI n) 18 a18 = some (nI ((11 - eH D n) % 11)) := by
  obtain ⟨r, hr, e⟩ := loop_inv (F := fun f (z : Int32 × Int32) => q_X6_checkByEleven_L4 (nI n) 18 a18 f z.1 z.2)
    (fun j z => z = (nI (eH D j), nI j)) (fun r => r.1 = nI (eH D n)) n
    (fun f z hz => by
      subst hz
      exact ⟨_, by show q_X6_checkByEleven_L4 _ _ _ (f + 1) (nI _) (nI n) = _; rw [q_X6_checkByEleven_L4, show t_X5_size (nI n) = nI n from rfl, if_pos (nI_le (Nat.le_refl _) (by omega))], rfl⟩)
    (fun f j z hj hz => by
      subst hz
      refine Or.inr ⟨_, ?_, rfl⟩
      obtain ⟨d1, d2⟩ := hD j hj
      have hl := eH_lt D j
      have em : (nI (2 * eH D j + 2 * D j)) - (nI (2 * eH D j + 2 * D j)) / 11 * 11 = nI ((2 * eH D j + 2 * D j) % 11) := nI_mod (b := 11) (by omega) (by omega) (by omega)
      show q_X6_checkByEleven_L4 _ _ _ (f + 1) (nI _) (nI j) = q_X6_checkByEleven_L4 _ _ _ f (nI (eH D (j + 1))) (nI (j + 1))
      rw [q_X6_checkByEleven_L4, show t_X5_size (nI n) = nI n from rfl, if_neg (nI_ge hj (by omega)), atI (by omega) (by omega), d2, show (2 : Int32) * nI (eH D j) = nI (2 * eH D j) from nI_mul 2 _, show (2 : Int32) * nI (D j) = nI (2 * D j) from nI_mul 2 _, nI_add, em, nI_1]
      rfl)
    10000 0 (nI 0, nI 0) rfl (Nat.zero_le _) (by omega)
  have hr' : q_X6_checkByEleven_L4 (nI n) 18 a18 10000 0 0 = some r := hr
  unfold q_X6_checkByEleven
  have hl := eH_lt D n
  have em : (nI (11 - eH D n)) - (nI (11 - eH D n)) / 11 * 11 = nI ((11 - eH D n) % 11) := nI_mod (b := 11) (by omega) (by omega) (by omega)
  rw [hr', Option.bind_some, e, show (11 : Int32) - nI (eH D n) = nI (11 - eH D n) from nI_sub (a := 11) (by omega), em]
/-- the product of the group of ten -/
def pTen (a b : Nat) : Nat := if a < 5 then (if b < 5 then (a + b) % 5 else (a + b) % 5 + 5) else (if b < 5 then (a + 10 - b) % 5 + 5 else (a + 10 - b) % 5)
theorem pTen_lt (a b : Nat) : pTen a b < 10 := by
  unfold pTen
  split <;> split <;> omega
theorem sg_lt (x : Nat) (h : x < 10) : sg x < 10 := by
  revert h x
  decide
theorem sgN_lt (t : Nat) {x : Nat} (h : x < 10) : sgN t x < 10 := by
  induction t with
  | zero => exact h
  | succ t ih => exact sg_lt _ ih
theorem prC : ∀ a, a < 10 → ∀ b, b < 10 → t_X6_productOf (nI a) (nI b) = nI (pTen a b) := by decide +kernel
/-- ten, from the right -/
def tS (D : Nat → Nat) (n : Nat) : Nat → Nat
  | 0 => 0
  | t + 1 => pTen (tS D n t) (sgN (t + 1) (D (n - 1 - t)))
theorem tS_lt (D : Nat → Nat) (n : Nat) : ∀ t, tS D n t < 10 := by
  intro t
  cases t with
  | zero => exact (by decide : 0 < 10)
  | succ t => exact pTen_lt _ _
theorem tenC {n : Nat} {D : Nat → Nat} {a18 a22 : Nat → Int32} (hn : n ≤ 18) (h0 : 1 ≤ n) (hC : ICo a22) (hD : ∀ k, k < n → D k < 10 ∧ a18 k = nI (D k)) : ∃ r : Int32 × Int32, q_X6_checkByTen_L9 (nI n) 18 a18 a22 10000 0 (nI n - 1) = some r ∧ r.1 = nI (tS D n n) := by
  have key : ∀ k f t, t + k = n → k < f → ∃ r : Int32 × Int32, q_X6_checkByTen_L9 (nI n) 18 a18 a22 f (nI (tS D n t)) (nI k + (-1)) = some r ∧ r.1 = nI (tS D n n) := by
    intro k
    induction k with
    | zero =>
      intro f t ht hf
      obtain ⟨f, rfl⟩ : ∃ g, f = g + 1 := ⟨f - 1, by omega⟩
      have : t = n := by omega
      subst this
      exact ⟨_, by rw [q_X6_checkByTen_L9, if_pos (by decide)], rfl⟩
    | succ k ih =>
      intro f t ht hf
      obtain ⟨f, rfl⟩ : ∃ g, f = g + 1 := ⟨f - 1, by omega⟩
      obtain ⟨d1, d2⟩ := hD k (by omega)
      have es : tS D n (t + 1) = pTen (tS D n t) (sgN (t + 1) (D k)) := by
        show pTen (tS D n t) (sgN (t + 1) (D (n - 1 - t))) = _
        rw [show n - 1 - t = k by omega]
      obtain ⟨r, r1, r2⟩ := ih f (t + 1) (by omega) (by omega)
      refine ⟨r, ?_, r2⟩
      have ec := hC (10 * (t + 1) + D k) (by omega)
      rw [show (10 * (t + 1) + D k) / 10 = t + 1 by omega, show (10 * (t + 1) + D k) % 10 = D k by omega] at ec
      rw [nI_m1 (by omega), show k + 1 - 1 = k by omega, q_X6_checkByTen_L9, if_neg (nI_pos (by omega)), atI (by omega) (by omega), d2, show t_X5_size (nI n) = nI n from rfl, nI_sub (by omega), show n - k = t + 1 by omega, show (10 : Int32) * nI (t + 1) = nI (10 * (t + 1)) from nI_mul 10 _, nI_add, if_neg (nI_pos (by omega)), if_neg (nI_ge (by omega) (by omega)), nI_clamp (by omega), ec, prC _ (tS_lt D n t) _ (sgN_lt _ d1), ← es]
      exact r1
  obtain ⟨r, r1, r2⟩ := key n 10000 0 (by omega) (by omega)
  refine ⟨r, ?_, r2⟩
  rw [nI_pred' h0, ← nI_m1 h0]
  exact r1
/-- the digit whose product with one is 0 -/
def tC (a : Nat) : Nat := if a = 0 then 0 else if a < 5 then 5 - a else a
theorem ten69 : ∀ a, a < 10 → q_X6_checkByTen_L69 (nI a) 10000 0 = some (Sum.inr (nI (tC a))) := by decide +kernel
/-- the check of digits by a scheme -/
def ckN (sc : Int32) (n : Nat) (D : Nat → Nat) : Nat := if sc = 108 then (10 - lS D n n % 10) % 10 else if sc = 101 then (11 - eH D n) % 11 else if sc = 110 then 98 - 100 * n97 D n % 97 else tC (tS D n n)
theorem ckC {sc : Int32} {n : Nat} {D : Nat → Nat} {a18 a22 : Nat → Int32} (hs : sc = 108 ∨ sc = 101 ∨ sc = 110 ∨ sc = 116) (hn : n ≤ 18) (h0 : 1 ≤ n) (hC : ICo a22) (hD : ∀ k, k < n → D k < 10 ∧ a18 k = nI (D k)) : q_X6_checkOf sc (nI n) 18 a18 a22 = some (nI (ckN sc n D)) := by
  rcases hs with rfl | rfl | rfl | rfl
  · obtain ⟨r, r1, r2⟩ := luhnC hn h0 hD
    have hl := lS_le (D := D) (n := n) (fun k hk => (hD k hk).1) n (Nat.le_refl _)
    have e1 : (nI (lS D n n)) - (nI (lS D n n)) / 10 * 10 = nI (lS D n n % 10) := nI_mod (b := 10) (by omega) (by omega) (by omega)
    have e2 : (10 : Int32) - nI (lS D n n % 10) = nI (10 - lS D n n % 10) := nI_sub (a := 10) (by omega)
    have e3 : (nI (10 - lS D n n % 10)) - (nI (10 - lS D n n % 10)) / 10 * 10 = nI ((10 - lS D n n % 10) % 10) := nI_mod (b := 10) (by omega) (by omega) (by omega)
    unfold q_X6_checkOf q_X6_checkByDoubling
    rw [if_neg (show ¬ ¬ (108 : Int32) = 108 from fun h => h rfl), show t_X5_size (nI n) = nI n from rfl, r1, Option.bind_some, r2, e1, e2, e3]
    rfl
  · unfold q_X6_checkOf
    rw [if_pos (show ¬ (101 : Int32) = 108 by decide), if_neg (show ¬ ¬ (101 : Int32) = 101 from fun h => h rfl), elevenC hn hD]
    rfl
  · unfold q_X6_checkOf
    rw [if_pos (show ¬ (110 : Int32) = 108 by decide), if_pos (show ¬ (110 : Int32) = 101 by decide), if_neg (show ¬ ¬ (110 : Int32) = 110 from fun h => h rfl), c97C hn hD]
    rfl
  · obtain ⟨r, r1, r2⟩ := tenC hn h0 hC hD
    unfold q_X6_checkOf q_X6_checkByTen
    rw [if_pos (show ¬ (116 : Int32) = 108 by decide), if_pos (show ¬ (116 : Int32) = 101 by decide), if_pos (show ¬ (116 : Int32) = 110 by decide), show t_X5_size (nI n) = nI n from rfl, r1, Option.bind_some, r2, ten69 _ (tS_lt D n n)]
    rfl
/-! Which chars are schemes and slips. -/
theorem schT {sc : Int32} (hs : sc = 108 ∨ sc = 101 ∨ sc = 110 ∨ sc = 116) : q_X11_requireScheme sc = some (.inr (), ()) := by
  rcases hs with rfl | rfl | rfl | rfl <;> decide +kernel
theorem schF {sc : Int32} (hs : ¬ (sc = 108 ∨ sc = 101 ∨ sc = 110 ∨ sc = 116)) : q_X11_requireScheme sc = some (.inl 0, ()) := by
  have step : ∀ j f, j < 4 → q_X11_requireScheme_L9 sc (nI 4) (f + 1) (nI j) = q_X11_requireScheme_L9 sc (nI 4) f (nI (j + 1)) := by
    intro j f hj
    have this : ¬ ([108, 101, 110, 116] : List Int32).getD j 0 = sc := by
      match j, hj with
      | 0, _ => exact fun e => hs (Or.inl e.symm)
      | 1, _ => exact fun e => hs (Or.inr (Or.inl e.symm))
      | 2, _ => exact fun e => hs (Or.inr (Or.inr (Or.inl e.symm)))
      | 3, _ => exact fun e => hs (Or.inr (Or.inr (Or.inr e.symm)))
    rw [q_X11_requireScheme_L9, if_neg (nI_ge hj (by decide)), if_pos (xinI hj (by decide)), nI_clamp (by omega), nI_1]
    exact if_pos this
  have e : ∀ f, q_X11_requireScheme_L9 sc (nI 4) (f + 5) (nI 0) = some (Sum.inl (nI 4)) := by
    intro f
    rw [step 0 (f + 4) (by omega), step 1 (f + 3) (by omega), step 2 (f + 2) (by omega), step 3 (f + 1) (by omega), q_X11_requireScheme_L9, if_pos (by decide)]
  have e' : q_X11_requireScheme_L9 sc (nI 4) 10000 0 = some (Sum.inl (nI 4)) := e 9995
  unfold q_X11_requireScheme
  rw [e']
  rfl
theorem nz {n : Nat} (h : ¬ n = 0) (hn : n < 2147483648) : ¬ nI n = (0 : Int32) := ne_of_nI (b := 0) h hn (by decide)
theorem rqdT {n : Nat} (h0 : ¬ n = 0) (hn : n ≤ 18) : q_X11_requireDigits (nI n) = some (.inr (), ()) := by
  unfold q_X11_requireDigits
  rw [show t_X5_size (nI n) = nI n from rfl, if_pos (nz h0 (by omega))]

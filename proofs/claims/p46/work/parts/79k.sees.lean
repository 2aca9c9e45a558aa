/-! What the schemes see. -/
theorem eH_cg {D D' : Nat → Nat} : ∀ j, (∀ i, i < j → D i = D' i) → eH D j = eH D' j := by
  intro j
  induction j with
  | zero => intro _; rfl
  | succ j ih =>
    intro h
    show (2 * eH D j + 2 * D j) % 11 = (2 * eH D' j + 2 * D' j) % 11
    rw [ih (fun i hi => h i (by omega)), h j (by omega)]
theorem eH_go {D D' : Nat → Nat} : ∀ d j, ¬ eH D j = eH D' j → (∀ i, j ≤ i → D i = D' i) → ¬ eH D (j + d) = eH D' (j + d) := by
  intro d
  induction d with
  | zero => intro j h _; exact h
  | succ d ih =>
    intro j h hi
    have h1 := ih j h hi
    have h2 := hi (j + d) (by omega)
    have h3 := eH_lt D (j + d)
    have h4 := eH_lt D' (j + d)
    show ¬ (2 * eH D (j + d) + 2 * D (j + d)) % 11 = (2 * eH D' (j + d) + 2 * D' (j + d)) % 11
    rw [← h2]
    generalize eH D (j + d) = x at *
    generalize eH D' (j + d) = y at *
    generalize D (j + d) = z at *
    omega
theorem eH_1 {D : Nat → Nat} {n k v : Nat} (hk : k < n) (hd : D k < 10) (hv : v < 10) (h : ¬ D k = v) : ¬ eH (chg D k k v) n = eH D n := by
  have e1 : eH (chg D k k v) k = eH D k := eH_cg k (fun i hi => if_neg (by omega))
  have e2 : chg D k k v k = v := if_pos (Or.inl rfl)
  have s : ¬ eH (chg D k k v) (k + 1) = eH D (k + 1) := by
    show ¬ (2 * eH (chg D k k v) k + 2 * chg D k k v k) % 11 = (2 * eH D k + 2 * D k) % 11
    rw [e1, e2]
    generalize eH D k = x at *
    generalize D k = z at *
    omega
  have := eH_go (n - (k + 1)) (k + 1) s (fun i hi => if_neg (by omega))
  rw [show k + 1 + (n - (k + 1)) = n by omega] at this
  exact this
theorem eH_2 {D : Nat → Nat} {n k : Nat} (hk : k + 1 < n) (hd : D k < 10) (hv : D (k + 1) < 10) (h : ¬ D k = D (k + 1)) : ¬ eH (swp D k (k + 1)) n = eH D n := by
  have e1 : eH (swp D k (k + 1)) k = eH D k := eH_cg k (fun i hi => by
    show (if i = k + 1 then D k else if i = k then D (k + 1) else D i) = D i
    rw [if_neg (by omega), if_neg (by omega)])
  have e2 : swp D k (k + 1) k = D (k + 1) := by
    show (if k = k + 1 then D k else if k = k then D (k + 1) else D k) = D (k + 1)
    rw [if_neg (by omega), if_pos rfl]
  have e3 : swp D k (k + 1) (k + 1) = D k := if_pos rfl
  have s : ¬ eH (swp D k (k + 1)) (k + 2) = eH D (k + 2) := by
    show ¬ (2 * ((2 * eH (swp D k (k + 1)) k + 2 * swp D k (k + 1) k) % 11) + 2 * swp D k (k + 1) (k + 1)) % 11 = (2 * ((2 * eH D k + 2 * D k) % 11) + 2 * D (k + 1)) % 11
    rw [e1, e2, e3]
    generalize eH D k = x at *
    generalize D k = z at *
    generalize D (k + 1) = w at *
    omega
  have := eH_go (n - (k + 2)) (k + 2) s (fun i hi => by
    show (if i = k + 1 then D k else if i = k then D (k + 1) else D i) = D i
    rw [if_neg (by omega), if_neg (by omega)])
  rw [show k + 2 + (n - (k + 2)) = n by omega] at this
  exact this
theorem n97_cg {D D' : Nat → Nat} : ∀ j, (∀ i, i < j → D i = D' i) → n97 D j = n97 D' j := by
  intro j
  induction j with
  | zero => intro _; rfl
  | succ j ih =>
    intro h
    show (10 * n97 D j + D j) % 97 = (10 * n97 D' j + D' j) % 97
    rw [ih (fun i hi => h i (by omega)), h j (by omega)]
theorem n97_go {D D' : Nat → Nat} : ∀ d j, ¬ n97 D j = n97 D' j → (∀ i, j ≤ i → D i = D' i) → ¬ n97 D (j + d) = n97 D' (j + d) := by
  intro d
  induction d with
  | zero => intro j h _; exact h
  | succ d ih =>
    intro j h hi
    have h1 := ih j h hi
    have h2 := hi (j + d) (by omega)
    have h3 := n97_lt D (j + d)
    have h4 := n97_lt D' (j + d)
    show ¬ (10 * n97 D (j + d) + D (j + d)) % 97 = (10 * n97 D' (j + d) + D' (j + d)) % 97
    rw [← h2]
    generalize n97 D (j + d) = x at *
    generalize n97 D' (j + d) = y at *
    generalize D (j + d) = z at *
    omega
theorem n97_1 {D : Nat → Nat} {n k v : Nat} (hk : k < n) (hd : D k < 10) (hv : v < 10) (h : ¬ D k = v) : ¬ n97 (chg D k k v) n = n97 D n := by
  have e1 : n97 (chg D k k v) k = n97 D k := n97_cg k (fun i hi => if_neg (by omega))
  have e2 : chg D k k v k = v := if_pos (Or.inl rfl)
  have s : ¬ n97 (chg D k k v) (k + 1) = n97 D (k + 1) := by
    show ¬ (10 * n97 (chg D k k v) k + chg D k k v k) % 97 = (10 * n97 D k + D k) % 97
    rw [e1, e2]
    generalize n97 D k = x at *
    generalize D k = z at *
    omega
  have := n97_go (n - (k + 1)) (k + 1) s (fun i hi => if_neg (by omega))
  rw [show k + 1 + (n - (k + 1)) = n by omega] at this
  exact this
theorem n97_2 {D : Nat → Nat} {n k : Nat} (hk : k + 1 < n) (hd : D k < 10) (hv : D (k + 1) < 10) (h : ¬ D k = D (k + 1)) : ¬ n97 (swp D k (k + 1)) n = n97 D n := by
  have e1 : n97 (swp D k (k + 1)) k = n97 D k := n97_cg k (fun i hi => by
    show (if i = k + 1 then D k else if i = k then D (k + 1) else D i) = D i
    rw [if_neg (by omega), if_neg (by omega)])
  have e2 : swp D k (k + 1) k = D (k + 1) := by
    show (if k = k + 1 then D k else if k = k then D (k + 1) else D k) = D (k + 1)
    rw [if_neg (by omega), if_pos rfl]
  have e3 : swp D k (k + 1) (k + 1) = D k := if_pos rfl
  have s : ¬ n97 (swp D k (k + 1)) (k + 2) = n97 D (k + 2) := by
    show ¬ (10 * ((10 * n97 (swp D k (k + 1)) k + swp D k (k + 1) k) % 97) + swp D k (k + 1) (k + 1)) % 97 = (10 * ((10 * n97 D k + D k) % 97) + D (k + 1)) % 97
    rw [e1, e2, e3]
    generalize n97 D k = x at *
    generalize D k = z at *
    generalize D (k + 1) = w at *
    omega
  have := n97_go (n - (k + 2)) (k + 2) s (fun i hi => by
    show (if i = k + 1 then D k else if i = k then D (k + 1) else D i) = D i
    rw [if_neg (by omega), if_neg (by omega)])
  rw [show k + 2 + (n - (k + 2)) = n by omega] at this
  exact this
theorem lc_inj : ∀ b : Bool, ∀ d, d < 10 → ∀ e, e < 10 → lc d b = lc e b → d = e := by decide +kernel
theorem lS_1 {D : Nat → Nat} {n k v : Nat} (hk : k < n) : ∀ t, t ≤ n → (t ≤ n - 1 - k → lS (chg D k k v) n t = lS D n t) ∧ (n - 1 - k < t → lS (chg D k k v) n t + lc (D k) (decide ((n - 1 - k) % 2 = 0)) = lS D n t + lc v (decide ((n - 1 - k) % 2 = 0))) := by
  intro t
  induction t with
  | zero => intro _; exact ⟨fun _ => rfl, fun h => absurd h (Nat.not_lt_zero _)⟩
  | succ t ih =>
    intro ht
    obtain ⟨i1, i2⟩ := ih (by omega)
    have es : ∀ X : Nat → Nat, lS X n (t + 1) = lS X n t + lc (X (n - 1 - t)) (decide (t % 2 = 0)) := fun X => rfl
    refine ⟨fun h => ?_, fun h => ?_⟩
    · rw [es, es, i1 (by omega)]
      congr 2
      exact if_neg (by omega)
    · rw [es, es]
      by_cases c : t = n - 1 - k
      · have e1 : n - 1 - t = k := by omega
        have e2 : chg D k k v k = v := if_pos (Or.inl rfl)
        rw [i1 (by omega), e1, e2, c]
        omega
      · have e3 : chg D k k v (n - 1 - t) = D (n - 1 - t) := if_neg (by omega)
        have := i2 (by omega)
        rw [e3]
        omega
theorem sg_inj : ∀ a, a < 10 → ∀ b, b < 10 → sg a = sg b → a = b := by decide +kernel
theorem sgN_inj : ∀ t a b, a < 10 → b < 10 → sgN t a = sgN t b → a = b := by
  intro t
  induction t with
  | zero => intro a b _ _ h; exact h
  | succ t ih => intro a b ha hb h; exact ih a b ha hb (sg_inj _ (sgN_lt t ha) _ (sgN_lt t hb) h)
theorem pT_l : ∀ x, x < 10 → ∀ a, a < 10 → ∀ b, b < 10 → pTen x a = pTen x b → a = b := by decide +kernel
theorem pT_r : ∀ x, x < 10 → ∀ a, a < 10 → ∀ b, b < 10 → pTen a x = pTen b x → a = b := by decide +kernel
theorem pT_s : ∀ x, x < 10 → ∀ p, p < 10 → ∀ q, q < 10 → pTen (pTen x p) (sg q) = pTen (pTen x q) (sg p) → p = q := by decide +kernel
theorem tC_inj : ∀ a, a < 10 → ∀ b, b < 10 → tC a = tC b → a = b := by decide +kernel
theorem tC_lt (a : Nat) (h : a < 10) : tC a < 10 := by
  unfold tC
  split
  · omega
  · split <;> omega
theorem tS_cg {D D' : Nat → Nat} {n : Nat} : ∀ t, (∀ i, i < t → D (n - 1 - i) = D' (n - 1 - i)) → tS D n t = tS D' n t := by
  intro t
  induction t with
  | zero => intro _; rfl
  | succ t ih =>
    intro h
    show pTen (tS D n t) (sgN (t + 1) (D (n - 1 - t))) = pTen (tS D' n t) (sgN (t + 1) (D' (n - 1 - t)))
    rw [ih (fun i hi => h i (by omega)), h t (by omega)]
theorem tS_go {D D' : Nat → Nat} {n : Nat} (hD : ∀ i, i < n → D i < 10) : ∀ d t, t + d ≤ n → ¬ tS D n t = tS D' n t → (∀ i, t ≤ i → i < n → D (n - 1 - i) = D' (n - 1 - i)) → ¬ tS D n (t + d) = tS D' n (t + d) := by
  intro d
  induction d with
  | zero => intro t _ h _; exact h
  | succ d ih =>
    intro t ht h hi
    have h1 := ih t (by omega) h hi
    show ¬ pTen (tS D n (t + d)) (sgN (t + d + 1) (D (n - 1 - (t + d)))) = pTen (tS D' n (t + d)) (sgN (t + d + 1) (D' (n - 1 - (t + d))))
    rw [← hi (t + d) (by omega) (by omega)]
    intro q
    exact h1 (pT_r _ (sgN_lt _ (hD _ (by omega))) _ (tS_lt D n _) _ (tS_lt D' n _) q)
theorem tS_1 {D : Nat → Nat} {n k v : Nat} (hD : ∀ i, i < n → D i < 10) (hk : k < n) (hv : v < 10) (h : ¬ D k = v) : ¬ tS (chg D k k v) n n = tS D n n := by
  have e1 : tS (chg D k k v) n (n - 1 - k) = tS D n (n - 1 - k) := tS_cg _ (fun i hi => if_neg (by omega))
  have e2 : chg D k k v k = v := if_pos (Or.inl rfl)
  have s : ¬ tS D n (n - 1 - k + 1) = tS (chg D k k v) n (n - 1 - k + 1) := by
    show ¬ pTen (tS D n (n - 1 - k)) (sgN (n - 1 - k + 1) (D (n - 1 - (n - 1 - k)))) = pTen (tS (chg D k k v) n (n - 1 - k)) (sgN (n - 1 - k + 1) (chg D k k v (n - 1 - (n - 1 - k))))
    rw [e1, show n - 1 - (n - 1 - k) = k by omega, e2]
    intro q
    exact h (sgN_inj _ _ _ (hD k hk) hv (pT_l _ (tS_lt D n _) _ (sgN_lt _ (hD k hk)) _ (sgN_lt _ hv) q))
  have := tS_go hD (n - (n - 1 - k + 1)) (n - 1 - k + 1) (by omega) s (fun i hi hin => (if_neg (by omega)).symm)
  rw [show n - 1 - k + 1 + (n - (n - 1 - k + 1)) = n by omega] at this
  exact fun q => this q.symm
theorem tS_2 {D : Nat → Nat} {n k : Nat} (hD : ∀ i, i < n → D i < 10) (hk : k + 1 < n) (h : ¬ D k = D (k + 1)) : ¬ tS (swp D k (k + 1)) n n = tS D n n := by
  have so : ∀ i, ¬ i = k → ¬ i = k + 1 → swp D k (k + 1) i = D i := by
    intro i h1 h2
    show (if i = k + 1 then D k else if i = k then D (k + 1) else D i) = D i
    rw [if_neg h2, if_neg h1]
  have e1 : tS (swp D k (k + 1)) n (n - 2 - k) = tS D n (n - 2 - k) := tS_cg _ (fun i hi => so _ (by omega) (by omega))
  have e2 : swp D k (k + 1) k = D (k + 1) := by
    show (if k = k + 1 then D k else if k = k then D (k + 1) else D k) = D (k + 1)
    rw [if_neg (by omega), if_pos rfl]
  have e3 : swp D k (k + 1) (k + 1) = D k := if_pos rfl
  have s : ¬ tS D n (n - 2 - k + 2) = tS (swp D k (k + 1)) n (n - 2 - k + 2) := by
    show ¬ pTen (pTen (tS D n (n - 2 - k)) (sgN (n - 2 - k + 1) (D (n - 1 - (n - 2 - k))))) (sg (sgN (n - 2 - k + 1) (D (n - 1 - (n - 2 - k + 1))))) = pTen (pTen (tS (swp D k (k + 1)) n (n - 2 - k)) (sgN (n - 2 - k + 1) (swp D k (k + 1) (n - 1 - (n - 2 - k))))) (sg (sgN (n - 2 - k + 1) (swp D k (k + 1) (n - 1 - (n - 2 - k + 1)))))
    rw [e1, show n - 1 - (n - 2 - k) = k + 1 by omega, show n - 1 - (n - 2 - k + 1) = k by omega, e2, e3]
    intro q
    have := pT_s _ (tS_lt D n _) _ (sgN_lt _ (hD (k + 1) hk)) _ (sgN_lt _ (hD k (by omega))) q
    exact h (sgN_inj _ _ _ (hD k (by omega)) (hD (k + 1) hk) this.symm)
  have := tS_go hD (n - (n - 2 - k + 2)) (n - 2 - k + 2) (by omega) s (fun i hi hin => (so _ (by omega) (by omega)).symm)
  rw [show n - 2 - k + 2 + (n - (n - 2 - k + 2)) = n by omega] at this
  exact fun q => this q.symm
theorem ckN_lt {sc : Int32} {n : Nat} (D : Nat → Nat) : ckN sc n D < 1000 := by
  unfold ckN
  split
  · omega
  · split
    · omega
    · split
      · omega
      · have := tC_lt _ (tS_lt D n n); omega
theorem ck_l (n : Nat) (D : Nat → Nat) : ckN 108 n D = (10 - lS D n n % 10) % 10 := rfl
theorem ck_e (n : Nat) (D : Nat → Nat) : ckN 101 n D = (11 - eH D n) % 11 := rfl
theorem ck_n (n : Nat) (D : Nat → Nat) : ckN 110 n D = 98 - 100 * n97 D n % 97 := rfl
theorem ck_t (n : Nat) (D : Nat → Nat) : ckN 116 n D = tC (tS D n n) := rfl
/-- each slip of one digit is seen -/
theorem see1 {sc : Int32} {n k v : Nat} {D : Nat → Nat} (hs : sc = 108 ∨ sc = 101 ∨ sc = 110 ∨ sc = 116) (hD : ∀ i, i < n → D i < 10) (hk : k < n) (hv : v < 10) (h : ¬ D k = v) : ¬ ckN sc n (chg D k k v) = ckN sc n D := by
  rcases hs with rfl | rfl | rfl | rfl
  · rw [ck_l, ck_l]
    have h1 := (lS_1 (D := D) (v := v) hk n (Nat.le_refl n)).2 (by omega)
    have h2 := lc_inj (decide ((n - 1 - k) % 2 = 0)) (D k) (hD k hk) v hv
    have h3 := lc_le (D k) (hD k hk) (decide ((n - 1 - k) % 2 = 0))
    have h4 := lc_le v hv (decide ((n - 1 - k) % 2 = 0))
    intro q
    apply h
    apply h2
    omega
  · rw [ck_e, ck_e]
    have h1 := eH_1 hk (hD k hk) hv h
    have h2 := eH_lt D n
    have h3 := eH_lt (chg D k k v) n
    omega
  · rw [ck_n, ck_n]
    have h1 := n97_1 hk (hD k hk) hv h
    have h2 := n97_lt D n
    have h3 := n97_lt (chg D k k v) n
    omega
  · rw [ck_t, ck_t]
    intro q
    exact tS_1 hD hk hv h (tC_inj _ (tS_lt _ n n) _ (tS_lt D n n) q)
/-- each swap of neighbours is seen, but by the first scheme -/
theorem see2 {sc : Int32} {n k : Nat} {D : Nat → Nat} (hs : sc = 101 ∨ sc = 110 ∨ sc = 116) (hD : ∀ i, i < n → D i < 10) (hk : k + 1 < n) (h : ¬ D k = D (k + 1)) : ¬ ckN sc n (swp D k (k + 1)) = ckN sc n D := by
  rcases hs with rfl | rfl | rfl
  · rw [ck_e, ck_e]
    have h1 := eH_2 hk (hD k (by omega)) (hD (k + 1) hk) h
    have h2 := eH_lt D n
    have h3 := eH_lt (swp D k (k + 1)) n
    omega
  · rw [ck_n, ck_n]
    have h1 := n97_2 hk (hD k (by omega)) (hD (k + 1) hk) h
    have h2 := n97_lt D n
    have h3 := n97_lt (swp D k (k + 1)) n
    omega
  · rw [ck_t, ck_t]
    intro q
    exact tS_2 hD hk h (tC_inj _ (tS_lt _ n n) _ (tS_lt D n n) q)
theorem out_id {st : Nat → Int32 → Int32} {n : Nat} (h : ∀ k l, k < n → st k l = l) : ∀ j, j ≤ n → out st j = 0 := by
  intro j
  induction j with
  | zero => intro _; rfl
  | succ j ih =>
    intro hj
    show st j (out st j) = 0
    rw [h j _ (by omega), ih (by omega)]
theorem inn_id {sc ck : Int32} {n k b : Nat} {D : Nat → Nat} {l : Int32} (h : ∀ v, v < 10 → ¬ D k = v → ¬ nI (ckN sc n (chg D k b v)) = ck) : ∀ j, j ≤ 10 → inn sc n D ck k b l j = l := by
  intro j
  induction j with
  | zero => intro _; rfl
  | succ j ih =>
    intro hj
    by_cases c : D k = j
    · rw [show inn sc n D ck k b l (j + 1) = inn sc n D ck k b l j from if_pos c]
      exact ih (by omega)
    · rw [show inn sc n D ck k b l (j + 1) = inn sc n D ck k b l j + (if ¬ nI (ckN sc n (chg D k b j)) = ck then 0 else 1) from if_neg c, if_pos (h j (by omega) c), ih (by omega), Int32.add_zero]
theorem sees1 {sc : Int32} {n : Nat} {D : Nat → Nat} (hs : sc = 108 ∨ sc = 101 ∨ sc = 110 ∨ sc = 116) (hD : ∀ i, i < n → D i < 10) : unN sc 115 n D = 0 := by
  show out (stC sc n D (nI (ckN sc n D)) 0) n = 0
  refine out_id (fun k l hk => ?_) n (Nat.le_refl n)
  unfold stC
  by_cases c : n ≤ k + 0
  · rw [if_pos c]
  · rw [if_neg c, if_pos (show D k = D (k + 0) from rfl)]
    refine inn_id (fun v hv hne => ?_) 10 (Nat.le_refl 10)
    have h1 := see1 hs hD hk hv hne
    have h2 := ckN_lt (sc := sc) (n := n) D
    have h3 := ckN_lt (sc := sc) (n := n) (chg D k k v)
    have h4 : ¬ nI (ckN sc n (chg D k k v)) = nI (ckN sc n D) := ne_of_nI h1 (by omega) (by omega)
    exact h4
theorem sees2 {sc : Int32} {n : Nat} {D : Nat → Nat} (hs : sc = 101 ∨ sc = 110 ∨ sc = 116) (hD : ∀ i, i < n → D i < 10) : unN sc 110 n D = 0 := by
  show out (stS sc n D (nI (ckN sc n D)) 1) n = 0
  refine out_id (fun k l hk => ?_) n (Nat.le_refl n)
  unfold stS
  by_cases c : n ≤ k + 1
  · rw [if_pos c]
  · rw [if_neg c]
    by_cases e : D k = D (k + 1)
    · rw [if_pos e]
    · have h1 := see2 hs hD (show k + 1 < n by omega) e
      have h2 := ckN_lt (sc := sc) (n := n) D
      have h3 := ckN_lt (sc := sc) (n := n) (swp D k (k + 1))
      rw [if_neg e, if_pos (ne_of_nI h1 (by omega) (by omega)), Int32.add_zero]

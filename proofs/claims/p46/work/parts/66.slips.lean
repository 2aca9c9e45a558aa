/-! Slips that a kind does not see. -/
theorem find_loop {α : Type} {F : Nat → Int32 → Option α} {P : Nat → Bool} {N : Nat} {stop hit : Nat → α}
    (h1 : ∀ f j, N ≤ j → j < 100000 → F (f + 1) (nI j) = some (stop j))
    (h2 : ∀ f j, j < N → F (f + 1) (nI j) = if P j = true then some (hit j) else F f (nI (j + 1))) (hN : N < 100000) :
    ∀ (r a n : Nat), N - a = r → a < 100000 → r < n → F n (nI a) = some (match fo P a (N - a) with | none => stop (max a N) | some j => hit j) := by
  intro r
  induction r with
  | zero =>
    intro a n hr ha hn
    obtain ⟨k, rfl⟩ : ∃ k, n = k + 1 := ⟨n - 1, by omega⟩
    rw [h1 k a (by omega) ha, hr, show max a N = a by omega]
    rfl
  | succ r ih =>
    intro a n hr ha hn
    obtain ⟨k, rfl⟩ : ∃ k, n = k + 1 := ⟨n - 1, by omega⟩
    rw [h2 k a (by omega)]
    by_cases hp : P a = true
    · rw [if_pos hp, fo_T (by omega) hp]
    · rw [if_neg hp, ih (a + 1) k (by omega) (by omega) (by omega), fo_F (by omega) hp, show N - a - 1 = N - (a + 1) by omega, show max (a + 1) N = max a N by omega]
/-- the same from a place a on -/
theorem find_loop2 {α : Type} {F : Nat → Int32 → Option α} {P : Nat → Bool} {N b : Nat} {stop hit : Nat → α}
    (h1 : ∀ f j, N ≤ j → j < 100000 → F (f + 1) (nI j) = some (stop j))
    (h2 : ∀ f j, b ≤ j → j < N → F (f + 1) (nI j) = if P j = true then some (hit j) else F f (nI (j + 1))) (hN : N < 100000) :
    ∀ (r a n : Nat), N - a = r → b ≤ a → a < 100000 → r < n → F n (nI a) = some (match fo P a (N - a) with | none => stop (max a N) | some j => hit j) := by
  intro r
  induction r with
  | zero =>
    intro a n hr hb ha hn
    obtain ⟨k, rfl⟩ : ∃ k, n = k + 1 := ⟨n - 1, by omega⟩
    rw [h1 k a (by omega) ha, hr, show max a N = a by omega]
    rfl
  | succ r ih =>
    intro a n hr hb ha hn
    obtain ⟨k, rfl⟩ : ∃ k, n = k + 1 := ⟨n - 1, by omega⟩
    rw [h2 k a hb (by omega)]
    by_cases hp : P a = true
    · rw [if_pos hp, fo_T (by omega) hp]
    · rw [if_neg hp, ih (a + 1) k (by omega) (by omega) (by omega) (by omega), fo_F (by omega) hp, show N - a - 1 = N - (a + 1) by omega, show max (a + 1) N = max a N by omega]
/-- the rest of z to the power of k -/
def zR (w p : Nat) : Nat → Nat
  | 0 => 1
  | k + 1 => kT w p (zR w p k)
theorem zR_lt {w p : Nat} (h1 : 1 ≤ w) (hp : p < 2 ^ w) : ∀ k, zR w p k < 2 ^ w := by
  intro k
  cases k with
  | zero => exact Nat.one_lt_two_pow (by omega)
  | succ k => exact kT_lt hp
theorem restsC {w p n : Nat} {a16 : Nat → Int32} (h1 : 1 ≤ w) (h : w ≤ 32) (hp : p < 2 ^ w) (hn : n ≤ 48) : ∃ g, q_X7_findRests (nI n) a16 (nI w) (nI p) = some g ∧ ∀ k, k < n → g k = nI (zR w p k) := by
  obtain ⟨u, hu, hu2⟩ := loop_inv (F := fun k (x : Int32 × Int32 × (Nat → Int32)) => q_X7_findRests_L5 (nI n) (nI w) (nI p) k x.1 x.2.1 x.2.2)
    (fun i x => x.1 = nI (zR w p i) ∧ x.2.1 = nI i ∧ ∀ t, t < i → x.2.2 t = nI (zR w p t)) (fun r => ∀ t, t < n → r.2.2 t = nI (zR w p t)) n
    (fun k x h => by
      obtain ⟨c, l, v⟩ := x
      obtain ⟨e1, e2, e3⟩ := h
      have e2 : l = nI n := e2
      subst e2
      exact ⟨_, by show q_X7_findRests_L5 _ _ _ (k + 1) _ _ _ = _; rw [q_X7_findRests_L5, if_pos (nI_le (Nat.le_refl _) (by omega))], e3⟩)
    (fun k i x hi h9 => by
      obtain ⟨c, l, v⟩ := x
      obtain ⟨e1, e2, e3⟩ := h9
      have e1 : c = nI (zR w p i) := e1
      have e2 : l = nI i := e2
      subst e1; subst e2
      have e3 : ∀ t, t < i → v t = nI (zR w p t) := e3
      refine Or.inr ⟨(nI (zR w p (i + 1)), nI (i + 1), upd v i (nI (zR w p i))), ?_, rfl, rfl, ?_⟩
      · show q_X7_findRests_L5 _ _ _ (k + 1) (nI _) (nI i) v = q_X7_findRests_L5 _ _ _ k _ _ _
        rw [q_X7_findRests_L5, if_neg (nI_ge hi (by omega)), if_neg (nI_ge (by omega) (by omega)), if_pos (xinI (by omega) (by omega)), nI_clamp (by omega), nI_1, timesZI h1 h (zR_lt h1 hp i)]
        rfl
      · intro t ht
        show upd v i _ t = _
        by_cases e : t = i
        · subst e; exact upd_eq
        · rw [upd_ne e]; exact e3 t (by omega))
    10000 0 (nI 1, nI 0, a16) ⟨rfl, rfl, fun t ht => absurd ht (Nat.not_lt_zero t)⟩ (Nat.zero_le _) (by omega)
  refine ⟨u.2.2, ?_, hu2⟩
  unfold q_X7_findRests
  have hu' : q_X7_findRests_L5 (nI n) (nI w) (nI p) 10000 1 0 a16 = some u := hu
  rw [hu', Option.bind_some]
theorem lNi {n : Nat} (h : n < 9223372036854775808) : (lN n).toInt = (n : Int) := lg_ofNat_toInt (by omega)
theorem lg_nn {v : Nat} (h : v < 9223372036854775808) : ¬ lg_cmp (lN v) 0 < 0 := by
  rw [lg_cmp_lt, Int64.lt_iff_toInt_lt, lNi h]
  show ¬ (v : Int) < 0
  omega
theorem lg_m1 : lg_cmp (-1) 0 < 0 := by decide
section SLIP
variable (R : Nat → Nat)
def s1 (n x : Nat) : Option Nat := fo (fun j => R j == x) 1 (n - 1)
def s2 (n x : Nat) : Option Nat := fo (fun j => (s1 R j (x ^^^ R j)).isSome) 1 (n - 1)
/-- the least slip of f turned bits, whose last one stands at n, that is not seen -/
def sU (f n : Nat) : Option Nat :=
  if f = 2 then (if R n ^^^ 1 = 0 then some (2 ^ n ||| 0 ||| 1) else none)
  else if f = 3 then (match s1 R n (R n ^^^ 1) with | none => none | some j => some (2 ^ n ||| 2 ^ j ||| 1))
  else (match s2 R n (R n ^^^ 1) with
    | none => none
    | some j => match s1 R j (R n ^^^ 1 ^^^ R j) with
      | none => none
      | some i => some (2 ^ n ||| (2 ^ j ||| 2 ^ i) ||| 1))
def sL (f b : Nat) : Option Nat := fo (fun n => (sU R f n).isSome) 1 (b - 1)
end SLIP
section SLIPC
variable {R : Nat → Nat} {a16 : Nat → Int32} {a62 : Nat → Int64} {m : Nat}
theorem oneC (hm : m ≤ 48) (hR : ∀ k, R k < 4294967296) (ha : ∀ k, k < m → a16 k = nI (R k)) {n x : Nat} (hn : n ≤ m) (hx : x < 4294967296) : q_X7_oneBelow (nI n) (nI x) a16 = some (match s1 R n x with | none => -1 | some j => lN (2 ^ j)) := by
  have h := find_loop2 (F := fun f j => q_X7_oneBelow_L2 (nI n) (nI x) a16 f j) (P := fun j => R j == x) (N := n) (b := 1) (stop := fun j => Sum.inl (nI j)) (hit := fun j => Sum.inr (lN (2 ^ j)))
    (fun f j h1 h2 => by show q_X7_oneBelow_L2 _ _ _ (f + 1) (nI j) = _; rw [q_X7_oneBelow_L2, if_pos (nI_le h1 (by omega))])
    (fun f j h0 h1 => by
      show q_X7_oneBelow_L2 _ _ _ (f + 1) (nI j) = _
      rw [q_X7_oneBelow_L2, if_neg (nI_ge h1 (by omega)), if_neg (nI_ge (by omega) (by omega)), if_pos (xinI (by omega) (by omega)), nI_clamp (by omega), ha j (by omega), nI_1]
      by_cases e : R j = x
      · rw [if_neg (show ¬ ¬ nI (R j) = nI x by rw [e]; exact fun h => h rfl), if_pos (beq_iff_eq.mpr e), show (1 : Int64) = lN 1 from rfl, lN_shl 1 (by omega), Nat.one_mul]
      · rw [if_pos (fun h => e ((nI_inj (hR j) hx).mp h)), if_neg (by rw [beq_iff_eq]; exact e)])
    (by omega) (n - 1) 1 10000 rfl (Nat.le_refl _) (by omega) (by omega)
  unfold q_X7_oneBelow
  have h' : q_X7_oneBelow_L2 (nI n) (nI x) a16 10000 1 = _ := h
  rw [h']
  unfold s1
  cases fo (fun j => R j == x) 1 (n - 1) with
  | none => rfl
  | some j => rfl
theorem s1_lt {n x j : Nat} (h : s1 R n x = some j) : j < n := by
  have := fo_lt _ _ _ h
  omega
theorem pow48 {j : Nat} (h : j < 48) : 2 ^ j < 281474976710656 := by
  have : 2 ^ j < 2 ^ 48 := Nat.pow_lt_pow_right (by decide) h
  exact this
theorem s2_fo {n x : Nat} : s2 R n x = fo (fun j => (s1 R j (x ^^^ R j)).isSome) 2 (n - 2) := by
  unfold s2
  by_cases h : n ≤ 1
  · rw [show n - 1 = 0 by omega, show n - 2 = 0 by omega]; rfl
  · rw [fo_F (by omega) (by rw [show s1 R 1 (x ^^^ R 1) = none from rfl]; decide), show n - 1 - 1 = n - 2 by omega]
theorem twoC (hm : m ≤ 48) (hR : ∀ k, R k < 4294967296) (ha : ∀ k, k < m → a16 k = nI (R k)) {n x : Nat} (hn : n ≤ m) (hx : x < 4294967296) : q_X7_twoBelow (nI n) (nI x) a16 = some (match s2 R n x with | none => -1 | some j => match s1 R j (x ^^^ R j) with | none => -1 | some i => lN (2 ^ j ||| 2 ^ i)) := by
  have h := find_loop2 (F := fun f j => q_X7_twoBelow_L2 (nI n) (nI x) a16 f j) (P := fun j => (s1 R j (x ^^^ R j)).isSome) (N := n) (b := 2) (stop := fun j => Sum.inl (nI j)) (hit := fun j => Sum.inr (match s1 R j (x ^^^ R j) with | none => -1 | some i => lN (2 ^ j ||| 2 ^ i)))
    (fun f j h1 h2 => by show q_X7_twoBelow_L2 _ _ _ (f + 1) (nI j) = _; rw [q_X7_twoBelow_L2, if_pos (nI_le h1 (by omega))])
    (fun f j h0 h1 => by
      show q_X7_twoBelow_L2 _ _ _ (f + 1) (nI j) = _
      rw [q_X7_twoBelow_L2, if_neg (nI_ge h1 (by omega)), if_neg (nI_ge (by omega) (by omega)), if_pos (xinI (by omega) (by omega)), nI_clamp (by omega), ha j (by omega), nI_1, nI_xor, oneC hm hR ha (by omega) (Nat.xor_lt_two_pow (n := 32) hx (hR j)), Option.bind_some]
      cases hs : s1 R j (x ^^^ R j) with
      | none => rw [if_pos lg_m1]; rfl
      | some i =>
        have hi := s1_lt hs
        have := pow48 (show i < 48 by omega)
        rw [if_neg (lg_nn (by omega)), show (1 : Int64) = lN 1 from rfl, lN_shl 1 (by omega), Nat.one_mul, lN_or]
        rfl)
    (by omega) (n - 2) 2 10000 rfl (Nat.le_refl _) (by omega) (by omega)
  unfold q_X7_twoBelow
  have h' : q_X7_twoBelow_L2 (nI n) (nI x) a16 10000 2 = _ := h
  rw [h', ← s2_fo]
  cases s2 R n x with
  | none => rfl
  | some j => rfl
theorem or48 {n a : Nat} (hn : n < 48) (ha : a < 281474976710656) : 2 ^ n ||| a ||| 1 < 281474976710656 := by
  have h1 : 2 ^ n ||| a < 2 ^ 48 := Nat.or_lt_two_pow (pow48 hn) ha
  exact Nat.or_lt_two_pow (n := 48) h1 (by decide)
theorem sU_lt {f n v : Nat} (hn : n < 48) (h : sU R f n = some v) : v < 281474976710656 ∧ v ≠ 0 := by
  have nz : ∀ a b : Nat, a ||| b ||| 1 ≠ 0 := fun a b e => by
    have : (a ||| b ||| 1).testBit 0 = true := by simp
    rw [e] at this
    simp at this
  unfold sU at h
  split at h
  · split at h
    · cases h; exact ⟨or48 hn (by omega), nz _ _⟩
    · cases h
  · split at h
    · split at h
      · cases h
      · rename_i j hj
        cases h
        have := s1_lt hj
        exact ⟨or48 hn (pow48 (by omega)), nz _ _⟩
    · split at h
      · cases h
      · rename_i j hj
        split at h
        · cases h
        · rename_i i hi
          cases h
          have h3 := fo_lt _ _ _ hj
          have h4 := s1_lt hi
          exact ⟨or48 hn (Nat.or_lt_two_pow (n := 48) (pow48 (by omega)) (pow48 (by omega))), nz _ _⟩
theorem leastC (hm : m ≤ 48) (hR : ∀ k, R k < 4294967296) (ha : ∀ k, k < m → a16 k = nI (R k)) {f : Nat} (hf : f = 2 ∨ f = 3 ∨ f = 4) : q_X7_leastWithin (nI f) (nI m) a16 = some (match sL R f m with | none => 0 | some n => match sU R f n with | none => 0 | some v => lN v) := by
  have h := find_loop2 (F := fun k j => q_X7_leastWithin_L2 (nI f) (nI m) a16 k j) (P := fun n => (sU R f n).isSome) (N := m) (b := 1) (stop := fun j => Sum.inl (nI j)) (hit := fun n => Sum.inr (match sU R f n with | none => 0 | some v => lN v))
    (fun k j h1 h2 => by show q_X7_leastWithin_L2 _ _ _ (k + 1) (nI j) = _; rw [q_X7_leastWithin_L2, if_pos (nI_le h1 (by omega))])
    (fun k n h0 h1 => by
      show q_X7_leastWithin_L2 _ _ _ (k + 1) (nI n) = _
      have x1 : R n ^^^ 1 < 4294967296 := Nat.xor_lt_two_pow (n := 32) (hR n) (by decide)
      rw [q_X7_leastWithin_L2, if_neg (nI_ge h1 (by omega)), if_neg (nI_ge (by omega) (by omega)), if_pos (xinI (by omega) (by omega)), nI_clamp (by omega), ha n h1, nI_1, k1, nI_xor, show (1 : Int64) = lN 1 from rfl, lN_shl 1 (by omega), Nat.one_mul]
      rcases hf with rfl | rfl | rfl
      · rw [if_neg (show ¬ ¬ nI 2 = 2 from fun h => h rfl)]
        have hU : sU R 2 n = if R n ^^^ 1 = 0 then some (2 ^ n ||| 0 ||| 1) else none := rfl
        by_cases e : R n ^^^ 1 = 0
        · rw [if_pos e] at hU
          rw [hU, e, if_neg (show ¬ ¬ nI 0 = 0 from fun h => h rfl), if_neg (by decide), show (0 : Int32).toInt64 = lN 0 from rfl, lN_or, lN_or]
          rfl
        · rw [if_neg e] at hU
          rw [hU, if_pos (show ¬ nI (R n ^^^ 1) = 0 from fun h => e ((nI_inj x1 (by decide)).mp h)), if_pos (by decide)]
          rfl
      · rw [if_pos (show ¬ nI 3 = 2 by decide), if_neg (show ¬ ¬ nI 3 = 3 from fun h => h rfl), oneC hm hR ha (by omega) x1, Option.bind_some]
        have hU : sU R 3 n = (match s1 R n (R n ^^^ 1) with | none => none | some j => some (2 ^ n ||| 2 ^ j ||| 1)) := rfl
        cases hs : s1 R n (R n ^^^ 1) with
        | none =>
          rw [hs] at hU
          rw [hU, if_pos lg_m1]
          rfl
        | some j =>
          rw [hs] at hU
          have hj := s1_lt hs
          have := pow48 (show j < 48 by omega)
          rw [hU, if_neg (lg_nn (by omega)), lN_or, lN_or]
          rfl
      · have hT := twoC hm hR ha (show n ≤ m by omega) x1
        rw [if_pos (show ¬ nI 4 = 2 by decide), if_pos (show ¬ nI 4 = 3 by decide)]
        have hU : sU R 4 n = (match s2 R n (R n ^^^ 1) with | none => none | some j => match s1 R j (R n ^^^ 1 ^^^ R j) with | none => none | some i => some (2 ^ n ||| (2 ^ j ||| 2 ^ i) ||| 1)) := rfl
        cases hs : s2 R n (R n ^^^ 1) with
        | none =>
          rw [hs] at hU hT
          rw [hU, hT, Option.bind_some, if_pos lg_m1]
          rfl
        | some j =>
          rw [hs] at hU hT
          have hj := fo_lt _ _ _ hs
          obtain ⟨i, hi⟩ := Option.isSome_iff_exists.mp hj.2.2
          have hU : sU R 4 n = (match s1 R j (R n ^^^ 1 ^^^ R j) with | none => none | some i => some (2 ^ n ||| (2 ^ j ||| 2 ^ i) ||| 1)) := hU
          have hT : q_X7_twoBelow (nI n) (nI (R n ^^^ 1)) a16 = some (match s1 R j (R n ^^^ 1 ^^^ R j) with | none => -1 | some i => lN (2 ^ j ||| 2 ^ i)) := hT
          rw [hi] at hU hT
          have hi2 := s1_lt hi
          have q : 2 ^ j ||| 2 ^ i < 2 ^ 48 := Nat.or_lt_two_pow (pow48 (by omega)) (pow48 (by omega))
          rw [hU, hT, Option.bind_some, if_neg (lg_nn (by omega)), lN_or, lN_or]
          rfl)
    (by omega) (m - 1) 1 10000 rfl (Nat.le_refl _) (by omega) (by omega)
  unfold q_X7_leastWithin
  have h' : q_X7_leastWithin_L2 (nI f) (nI m) a16 10000 1 = _ := h
  rw [h']
  unfold sL
  cases fo (fun n => (sU R f n).isSome) 1 (m - 1) with
  | none => rfl
  | some j => rfl
theorem xor0 {a b : Nat} (h : a ^^^ b = 0) : a = b := by
  have : a ^^^ b ^^^ b = 0 ^^^ b := by rw [h]
  rw [Nat.xor_assoc, Nat.xor_self, Nat.xor_zero, Nat.zero_xor] at this
  exact this
theorem x3 {a b : Nat} : a ^^^ b ^^^ 1 = 0 ↔ b = a ^^^ 1 := by
  constructor
  · intro h
    have h2 : a ^^^ 1 ^^^ b = 0 := by rw [Nat.xor_assoc, Nat.xor_comm 1 b, ← Nat.xor_assoc]; exact h
    exact (xor0 h2).symm
  · rintro rfl
    rw [← Nat.xor_assoc, Nat.xor_self, Nat.zero_xor, Nat.xor_self]
theorem x4 {a b c : Nat} : a ^^^ b ^^^ c ^^^ 1 = 0 ↔ c = a ^^^ 1 ^^^ b := by
  rw [x3 (a := a ^^^ b), Nat.xor_assoc a b 1, Nat.xor_comm b 1, ← Nat.xor_assoc]
end SLIPC

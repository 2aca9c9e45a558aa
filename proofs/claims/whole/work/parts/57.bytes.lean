/-! The row of bytes, and what is kept of it. -/
theorem writeC {p n m : Nat} {a6 a5 a2 : Nat → Int32} (hp : p < 10) (hn : n ≤ 64) : ∃ v, q_X8_write (nI p) (nI 64) 10 a6 (nI n) 640 a5 64 a2 = some (upd a6 p (nI n), v) ∧ (∀ k, k < n → v (64 * p + k) = a2 k) ∧ ∀ i, (i < 64 * p ∨ 64 * p + 64 ≤ i) → v i = a5 i := by
  obtain ⟨r, hr, h1, h2⟩ := loop_inv (F := fun f (s : Int32 × (Nat → Int32)) => q_X8_write_L36 (nI p) (nI n) (nI 64) 640 64 a2 f s.1 s.2)
    (fun i s => s.1 = nI i ∧ (∀ k, k < i → s.2 (64 * p + k) = a2 k) ∧ ∀ i, (i < 64 * p ∨ 64 * p + 64 ≤ i) → s.2 i = a5 i)
    (fun r => (∀ k, k < n → r.2 (64 * p + k) = a2 k) ∧ ∀ i, (i < 64 * p ∨ 64 * p + 64 ≤ i) → r.2 i = a5 i) n
    (fun f s h => by
      obtain ⟨l, v⟩ := s
      obtain ⟨rfl, h1, h2⟩ := h
      refine ⟨_, ?_, h1, h2⟩
      show q_X8_write_L36 _ _ _ _ _ _ (f + 1) (nI n) v = _
      rw [q_X8_write_L36, if_pos (nI_le (Nat.le_refl n) (by omega))])
    (fun f i s hi h => by
      obtain ⟨l, v⟩ := s
      obtain ⟨rfl, h1, h2⟩ := h
      refine Or.inr ⟨(nI (i + 1), upd v (64 * p + i) (a2 i)), ?_, rfl, ?_, ?_⟩
      · show q_X8_write_L36 _ _ _ _ _ _ (f + 1) (nI i) v = q_X8_write_L36 _ _ _ _ _ _ f (nI (i + 1)) _
        rw [q_X8_write_L36, if_neg (nI_ge hi (by omega)), nI_mul, nI_add, if_neg (nI_ge (by omega) (by omega)), if_pos (xinI (by omega) (by omega)), nI_clamp (by omega), nI_1, atI (by omega) (by omega), Nat.mul_comm p 64]
      · intro k hk
        by_cases e : k = i
        · subst e; exact upd_eq
        · rw [show (nI (i + 1), upd v (64 * p + i) (a2 i)).2 = upd v (64 * p + i) (a2 i) from rfl, upd_ne (by omega)]; exact h1 k (by omega)
      · intro t ht
        rw [show (nI (i + 1), upd v (64 * p + i) (a2 i)).2 = upd v (64 * p + i) (a2 i) from rfl, upd_ne (by omega)]; exact h2 t ht)
    10000 0 (nI 0, a5) ⟨rfl, fun k hk => absurd hk (Nat.not_lt_zero k), fun _ _ => rfl⟩ (Nat.zero_le _) (by omega)
  refine ⟨r.2, ?_, h1, h2⟩
  unfold q_X8_write
  have hm : (if nI 64 < t_X5_size (nI n) then nI 64 else t_X5_size (nI n)) = nI n := if_neg (nI_nlt hn (by omega))
  rw [if_neg (nI_pos (by omega)), if_pos (nI_lt hp (by omega)), if_pos (xinI hp (by omega)), hm, k0]
  have hr' : q_X8_write_L36 (nI p) (nI n) (nI 64) 640 64 a2 10000 (nI 0) a5 = some r := hr
  rw [hr', nI_clamp (by omega)]
  rfl
theorem keepC {p q n : Nat} {a6 a5 a2 : Nat → Int32} (hp : p < 10) (hq : q ≤ 10) (hn : n ≤ 64) : ∃ v, q_X3_keep (nI p) (nI q) (nI 64) (nI n) a6 a5 a2 = some (nI ((p + 1) % 10), nI (min (q + 1) 10), upd a6 p (nI n), v) ∧ (∀ k, k < n → v (64 * p + k) = a2 k) ∧ ∀ i, (i < 64 * p ∨ 64 * p + 64 ≤ i) → v i = a5 i := by
  obtain ⟨v, h, h1, h2⟩ := writeC (m := 0) (a6 := a6) (a5 := a5) (a2 := a2) hp hn
  refine ⟨v, ?_, h1, h2⟩
  unfold q_X3_keep
  rw [h, Option.bind_some, nI_1, nI_1, k10, nI_mod (by omega) (by omega) (by omega), nI_min' (by omega) (by omega)]
/-- the reference's writing of a row behind the others -/
theorem laysM {q n : Nat} {g a49 : Nat → Int32} (hq : q < 10) (hn : n ≤ 64) : ∃ r : Int32 × (Nat → Int32), q_X12_keeps_L67 (nI n) (nI q) a49 10000 (nI 0) g = some r ∧ (∀ k, k < n → r.2 (65 * q + 1 + k) = a49 k) ∧ ∀ i, i ≤ 65 * q → r.2 i = g i := by
  obtain ⟨r, hr, h1, h2⟩ := loop_inv (F := fun f (s : Int32 × (Nat → Int32)) => q_X12_keeps_L67 (nI n) (nI q) a49 f s.1 s.2)
    (fun i s => s.1 = nI i ∧ (∀ k, k < i → s.2 (65 * q + 1 + k) = a49 k) ∧ ∀ i, i ≤ 65 * q → s.2 i = g i)
    (fun r => (∀ k, k < n → r.2 (65 * q + 1 + k) = a49 k) ∧ ∀ i, i ≤ 65 * q → r.2 i = g i) n
    (fun f s h => by
      obtain ⟨l, v⟩ := s
      obtain ⟨rfl, h1, h2⟩ := h
      refine ⟨_, ?_, h1, h2⟩
      show q_X12_keeps_L67 _ _ _ (f + 1) (nI n) v = _
      rw [q_X12_keeps_L67, if_pos (nI_le (Nat.le_refl n) (by omega))])
    (fun f i s hi h => by
      obtain ⟨l, v⟩ := s
      obtain ⟨rfl, h1, h2⟩ := h
      refine Or.inr ⟨(nI (i + 1), upd v (65 * q + 1 + i) (a49 i)), ?_, rfl, ?_, ?_⟩
      · show q_X12_keeps_L67 _ _ _ (f + 1) (nI i) v = q_X12_keeps_L67 _ _ _ f (nI (i + 1)) _
        rw [q_X12_keeps_L67, if_neg (nI_ge hi (by omega)), if_pos (xinI (by omega) (by omega)), k65, nI_mul, nI_1, nI_add, if_pos (xinI (by omega) (by omega)), nI_clamp (by omega), nI_clamp (by omega), nI_1]
      · intro k hk
        show upd v (65 * q + 1 + i) (a49 i) _ = _
        by_cases e : k = i
        · subst e; exact upd_eq
        · rw [upd_ne (by omega)]; exact h1 k (by omega)
      · intro t ht
        show upd v (65 * q + 1 + i) (a49 i) _ = _
        rw [upd_ne (by omega)]; exact h2 t ht)
    10000 0 (nI 0, g) ⟨rfl, fun k hk => absurd hk (Nat.not_lt_zero k), fun _ _ => rfl⟩ (Nat.zero_le _) (by omega)
  exact ⟨r, hr, h1, h2⟩
theorem shiftM {a52 : Nat → Int32} : ∃ r : Int32 × (Nat → Int32), q_X12_keeps_L11 10000 (nI 0) a52 = some r ∧ ∀ k, k < 585 → r.2 k = a52 (k + 65) := by
  obtain ⟨r, hr, h1⟩ := loop_inv (F := fun f (s : Int32 × (Nat → Int32)) => q_X12_keeps_L11 f s.1 s.2)
    (fun i s => s.1 = nI i ∧ (∀ k, k < i → s.2 k = a52 (k + 65)) ∧ ∀ k, i ≤ k → s.2 k = a52 k)
    (fun r => ∀ k, k < 585 → r.2 k = a52 (k + 65)) 585
    (fun f s h => by
      obtain ⟨l, v⟩ := s
      obtain ⟨rfl, h1, h2⟩ := h
      refine ⟨_, ?_, h1⟩
      show q_X12_keeps_L11 (f + 1) (nI 585) v = _
      rw [q_X12_keeps_L11, if_pos (show (585 : Int32) ≤ nI 585 by decide)])
    (fun f i s hi h => by
      obtain ⟨l, v⟩ := s
      obtain ⟨rfl, h1, h2⟩ := h
      refine Or.inr ⟨(nI (i + 1), upd v i (a52 (i + 65))), ?_, rfl, ?_, ?_⟩
      · show q_X12_keeps_L11 (f + 1) (nI i) v = q_X12_keeps_L11 f (nI (i + 1)) _
        rw [q_X12_keeps_L11, if_neg (show ¬ (585 : Int32) ≤ nI i from nI_ge (b := 585) hi (by decide)), k65, nI_add, if_pos (xinI (by omega) (by omega)), if_pos (xinI (by omega) (by omega)), nI_clamp (by omega), nI_clamp (by omega), nI_1, show v (i + 65) = a52 (i + 65) from h2 _ (by omega)]
      · intro k hk
        show upd v i (a52 (i + 65)) _ = _
        by_cases e : k = i
        · subst e; exact upd_eq
        · rw [upd_ne e]; exact h1 k (by omega)
      · intro t ht
        show upd v i (a52 (i + 65)) _ = _
        rw [upd_ne (by omega)]; exact h2 t (by omega))
    10000 0 (nI 0, a52) ⟨rfl, fun k hk => absurd hk (Nat.not_lt_zero k), fun _ _ => rfl⟩ (Nat.zero_le _) (by omega)
  exact ⟨r, hr, h1⟩
theorem keepM {q n : Nat} {a52 a49 : Nat → Int32} (hq : q ≤ 10) (hn : n ≤ 64) : ∃ g, q_X12_keeps (nI n) (nI q) a52 a49 = some (nI (min (q + 1) 10), g) ∧ g (65 * (min (q + 1) 10 - 1)) = nI n ∧ (∀ k, k < n → g (65 * (min (q + 1) 10 - 1) + 1 + k) = a49 k) ∧ ∀ i, i < 65 * (min (q + 1) 10 - 1) → g i = a52 (if q = 10 then i + 65 else i) := by
  unfold q_X12_keeps
  by_cases h : q = 10
  · subst h
    obtain ⟨r, hr, h1⟩ := shiftM (a52 := a52)
    obtain ⟨r2, hr2, g1, g2⟩ := laysM (q := 9) (n := n) (g := upd r.2 (65 * 9) (nI n)) (a49 := a49) (by omega) hn
    refine ⟨r2.2, ?_, ?_, g1, ?_⟩
    · rw [if_neg (by decide), k0, hr, Option.bind_some, nI_pred' (by omega), k65, nI_mul, if_pos (xinI (by omega) (by omega)), nI_clamp (by omega), hr2, Option.bind_some, nI_1]; rfl
    · show r2.2 (65 * 9) = _
      rw [g2 _ (Nat.le_refl _), upd_eq]
    · intro i hi
      have hi : i < 585 := hi
      rw [g2 i (by omega), upd_ne (by omega), h1 i hi, if_pos rfl]
  · obtain ⟨r2, hr2, g1, g2⟩ := laysM (q := q) (n := n) (g := upd a52 (65 * q) (nI n)) (a49 := a49) (by omega) hn
    have hm : min (q + 1) 10 = q + 1 := by omega
    rw [hm]
    refine ⟨r2.2, ?_, ?_, g1, ?_⟩
    · rw [if_pos (show ¬ nI q = 10 from ne_of_nI (b := 10) h (by omega) (by decide)), k65, nI_mul, if_pos (xinI (by omega) (by omega)), nI_clamp (by omega), k0, hr2, Option.bind_some, nI_1]
    · show r2.2 (65 * q) = _
      rw [g2 _ (Nat.le_refl _), upd_eq]
    · intro i hi
      have hi : i < 65 * q := hi
      rw [g2 i (by omega), upd_ne (by omega), if_neg h]
theorem keepP {n : Nat} {B : Nat → Nat} {c3_1 c3_2 c4_0 : Int32} {a5 a6 a2 : Nat → Int32} {c48_20 : Int32} {a52 a49 : Nat → Int32} (hn : n ≤ 64) (hB : ∀ k, k < n → B k < 256 ∧ a2 k = nI (B k) ∧ a49 k = nI (B k)) (h : IP c3_1 c3_2 c4_0 a5 a6 c48_20 a52) :
    ∃ x y, q_X3_keep c3_1 c3_2 c4_0 (nI n) a6 a5 a2 = some x ∧ q_X12_keeps (nI n) c48_20 a52 a49 = some y ∧ IP x.1 x.2.1 c4_0 x.2.2.2 x.2.2.1 y.1 y.2 := by
  obtain ⟨p, q, hp, hq, rfl, rfl, rfl, rfl, hs⟩ := h
  obtain ⟨v, e1, v1, v2⟩ := keepC (a6 := a6) (a5 := a5) (a2 := a2) hp hq hn
  obtain ⟨g, e2, g1, g2, g3⟩ := keepM (a52 := a52) (a49 := a49) hq hn
  refine ⟨_, _, e1, e2, (p + 1) % 10, min (q + 1) 10, by omega, by omega, rfl, rfl, rfl, rfl, ?_⟩
  intro j hj
  by_cases hl : j + 1 = min (q + 1) 10
  · have e : ((p + 1) % 10 + 10 - min (q + 1) 10 + j) % 10 = p := by omega
    refine ⟨n, B, hn, ?_, ?_, ?_⟩
    · show upd a6 p (nI n) _ = _
      rw [e, upd_eq]
    · show g _ = _
      rw [show j = min (q + 1) 10 - 1 by omega]; exact g1
    · intro k hk
      obtain ⟨b1, b2, b3⟩ := hB k hk
      refine ⟨b1, ?_, ?_⟩
      · show v _ = _
        rw [e, v1 k hk, b2]
      · show g _ = _
        rw [show j = min (q + 1) 10 - 1 by omega, g2 k hk, b3]
  · obtain ⟨m, C, hm, h1, h2, h3⟩ := hs (if q = 10 then j + 1 else j) (by split <;> omega)
    have e : ((p + 1) % 10 + 10 - min (q + 1) 10 + j) % 10 = (p + 10 - q + (if q = 10 then j + 1 else j)) % 10 := by split <;> omega
    have hne : (p + 10 - q + (if q = 10 then j + 1 else j)) % 10 ≠ p := by split <;> omega
    have hlt : (p + 10 - q + (if q = 10 then j + 1 else j)) % 10 < 10 := Nat.mod_lt _ (by decide)
    refine ⟨m, C, hm, ?_, ?_, ?_⟩
    · show upd a6 p (nI n) _ = _
      rw [e, upd_ne hne, h1]
    · show g _ = _
      rw [g3 _ (by omega), ← h2]
      congr 1
      split <;> omega
    · intro k hk
      obtain ⟨b1, b2, b3⟩ := h3 k hk
      refine ⟨b1, ?_, ?_⟩
      · show v _ = _
        rw [e, v2 _ (by omega), b2]
      · show g _ = _
        rw [g3 _ (by omega), ← b3]
        congr 1
        split <;> omega

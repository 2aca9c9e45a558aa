/-! Wares: rows of a store, and texts that are compared. -/
theorem readW {s m : Nat} {a6 a5 a2 : Nat → Int32} (hs : s < 20) (hm : m ≤ 9) (h6 : a6 s = nI m) : ∃ g, q_X8_read (nI s) (nI 9) 20 a6 180 a5 9 a2 = some (nI m, g) ∧ ∀ t, t < m → g t = a5 (9 * s + t) := by
  obtain ⟨r, hr, h1, h2⟩ := loop_inv (F := fun k (x : Int32 × Int32 × (Nat → Int32)) => q_X8_read_L20 (nI s) (nI 9) 20 a6 180 a5 9 k x.1 x.2.1 x.2.2)
    (fun i x => x.1 = nI i ∧ x.2.1 = nI i ∧ ∀ t, t < i → x.2.2 t = a5 (9 * s + t))
    (fun r => r.2.1 = nI m ∧ ∀ t, t < m → r.2.2 t = a5 (9 * s + t)) m
    (fun k x h => by
      obtain ⟨l, c, v⟩ := x
      obtain ⟨rfl, h1, h2⟩ := h
      refine ⟨_, ?_, h1, h2⟩
      show q_X8_read_L20 _ _ _ _ _ _ _ (k + 1) (nI m) c v = _
      rw [q_X8_read_L20, if_pos (xinI (by omega) (by omega)), nI_clamp (by omega), h6, if_pos (nI_le (Nat.le_refl m) (by omega))])
    (fun k i x hi h => by
      obtain ⟨l, c, v⟩ := x
      obtain ⟨rfl, h1, h2⟩ := h
      have h1 : c = nI i := h1
      subst h1
      have h2 : ∀ t, t < i → v t = a5 (9 * s + t) := h2
      refine Or.inr ⟨(nI (i + 1), nI (i + 1), upd v i (a5 (9 * s + i))), ?_, rfl, rfl, ?_⟩
      · show q_X8_read_L20 _ _ _ _ _ _ _ (k + 1) (nI i) (nI i) v = q_X8_read_L20 _ _ _ _ _ _ _ k (nI (i + 1)) (nI (i + 1)) _
        rw [q_X8_read_L20, if_pos (xinI (by omega) (by omega)), nI_clamp (by omega), h6, if_neg (nI_ge hi (by omega)), nI_mul, nI_add, if_neg (nI_ge (by omega) (by omega)), if_pos (xinI (by omega) (by omega)), nI_clamp (by omega), appendC (by omega) (by decide) (by omega), Option.bind_some, nI_1, Nat.mul_comm s 9]
      · intro t ht
        show upd v i _ t = _
        by_cases e : t = i
        · subst e; exact upd_eq
        · rw [upd_ne e]; exact h2 t (by omega))
    10000 0 (nI 0, nI 0, a2) ⟨rfl, rfl, fun t ht => absurd ht (Nat.not_lt_zero t)⟩ (Nat.zero_le _) (by omega)
  refine ⟨r.2.2, ?_, h2⟩
  unfold q_X8_read t_X5_empty
  have hr' : q_X8_read_L20 (nI s) (nI 9) 20 a6 180 a5 9 10000 (nI 0) (nI 0) a2 = some r := hr
  rw [if_neg (nI_pos (by omega)), if_pos (nI_lt hs (by omega)), k0, hr', Option.bind_some, h1]
theorem writeW {p n : Nat} {a6 a5 a2 : Nat → Int32} (hp : p < 20) (hn : n ≤ 9) : ∃ v, q_X8_write (nI p) (nI 9) 20 a6 (nI n) 180 a5 18 a2 = some (upd a6 p (nI n), v) ∧ (∀ k, k < n → v (9 * p + k) = a2 k) ∧ ∀ i, (i < 9 * p ∨ 9 * p + 9 ≤ i) → v i = a5 i := by
  obtain ⟨r, hr, h1, h2⟩ := loop_inv (F := fun f (s : Int32 × (Nat → Int32)) => q_X8_write_L36 (nI p) (nI n) (nI 9) 180 18 a2 f s.1 s.2)
    (fun i s => s.1 = nI i ∧ (∀ k, k < i → s.2 (9 * p + k) = a2 k) ∧ ∀ i, (i < 9 * p ∨ 9 * p + 9 ≤ i) → s.2 i = a5 i)
    (fun r => (∀ k, k < n → r.2 (9 * p + k) = a2 k) ∧ ∀ i, (i < 9 * p ∨ 9 * p + 9 ≤ i) → r.2 i = a5 i) n
    (fun f s h => by
      obtain ⟨l, v⟩ := s
      obtain ⟨rfl, h1, h2⟩ := h
      refine ⟨_, ?_, h1, h2⟩
      show q_X8_write_L36 _ _ _ _ _ _ (f + 1) (nI n) v = _
      rw [q_X8_write_L36, if_pos (nI_le (Nat.le_refl n) (by omega))])
    (fun f i s hi h => by
      obtain ⟨l, v⟩ := s
      obtain ⟨rfl, h1, h2⟩ := h
      refine Or.inr ⟨(nI (i + 1), upd v (9 * p + i) (a2 i)), ?_, rfl, ?_, ?_⟩
      · show q_X8_write_L36 _ _ _ _ _ _ (f + 1) (nI i) v = q_X8_write_L36 _ _ _ _ _ _ f (nI (i + 1)) _
        rw [q_X8_write_L36, if_neg (nI_ge hi (by omega)), nI_mul, nI_add, if_neg (nI_ge (by omega) (by omega)), if_pos (xinI (by omega) (by omega)), nI_clamp (by omega), nI_1, atI (by omega) (by omega), Nat.mul_comm p 9]
      · intro k hk
        by_cases e : k = i
        · subst e; exact upd_eq
        · rw [show (nI (i + 1), upd v (9 * p + i) (a2 i)).2 = upd v (9 * p + i) (a2 i) from rfl, upd_ne (by omega)]; exact h1 k (by omega)
      · intro t ht
        rw [show (nI (i + 1), upd v (9 * p + i) (a2 i)).2 = upd v (9 * p + i) (a2 i) from rfl, upd_ne (by omega)]; exact h2 t ht)
    10000 0 (nI 0, a5) ⟨rfl, fun k hk => absurd hk (Nat.not_lt_zero k), fun _ _ => rfl⟩ (Nat.zero_le _) (by omega)
  refine ⟨r.2, ?_, h1, h2⟩
  unfold q_X8_write
  have hm : (if nI 9 < t_X5_size (nI n) then nI 9 else t_X5_size (nI n)) = nI n := if_neg (nI_nlt hn (by omega))
  rw [if_neg (nI_pos (by omega)), if_pos (nI_lt hp (by omega)), if_pos (xinI hp (by omega)), hm, k0]
  have hr' : q_X8_write_L36 (nI p) (nI n) (nI 9) 180 18 a2 10000 (nI 0) a5 = some r := hr
  rw [hr', nI_clamp (by omega)]
  rfl
theorem skW {n : Nat} {a25 a26 a58 : Nat → Int32} (h : ∀ j, j < n → ∃ (m : Nat) (D : Nat → Nat), 1 ≤ m ∧ m ≤ 9 ∧ a26 j = nI m ∧ a58 (10 * j) = nI m ∧ ∀ k, k < m → D k < 10 ∧ a25 (9 * j + k) = nI (D k) ∧ a58 (10 * j + 1 + k) = nI (D k)) : ∃ (M : Nat → Nat) (E : Nat → Nat → Nat), ∀ j, j < n → 1 ≤ M j ∧ M j ≤ 9 ∧ a26 j = nI (M j) ∧ a58 (10 * j) = nI (M j) ∧ ∀ k, k < M j → E j k < 10 ∧ a25 (9 * j + k) = nI (E j k) ∧ a58 (10 * j + 1 + k) = nI (E j k) := by
  have h' : ∀ j, ∃ z : Nat × (Nat → Nat), j < n → 1 ≤ z.1 ∧ z.1 ≤ 9 ∧ a26 j = nI z.1 ∧ a58 (10 * j) = nI z.1 ∧ ∀ k, k < z.1 → z.2 k < 10 ∧ a25 (9 * j + k) = nI (z.2 k) ∧ a58 (10 * j + 1 + k) = nI (z.2 k) := by
    intro j
    by_cases c : j < n
    · obtain ⟨m, D, e⟩ := h j c
      exact ⟨(m, D), fun _ => e⟩
    · exact ⟨(0, fun _ => 0), fun q => absurd q c⟩
  obtain ⟨f, hf⟩ := Classical.axiomOfChoice h'
  exact ⟨fun j => (f j).1, fun j => (f j).2, hf⟩
/-- one text ahead of another -/
def aT (m : Nat) (E : Nat → Nat) (m' : Nat) (E' : Nat → Nat) : Prop := (∃ j, j < m ∧ j < m' ∧ (∀ i, i < j → E i = E' i) ∧ E j < E' j) ∨ ((∀ i, i < m → i < m' → E i = E' i) ∧ m < m')
def eT (m : Nat) (E : Nat → Nat) (m' : Nat) (E' : Nat → Nat) : Prop := m = m' ∧ ∀ i, i < m → E i = E' i
theorem aT_at {m m' j : Nat} {E E' : Nat → Nat} (h1 : j < m) (h2 : j < m') (he : ∀ i, i < j → E i = E' i) (hn : ¬ E j = E' j) : aT m E m' E' ↔ E j < E' j := by
  constructor
  · rintro (⟨k, k1, k2, k3, k4⟩ | ⟨k1, k2⟩)
    · rcases Nat.lt_trichotomy k j with c | c | c
      · have := he k c; omega
      · rw [← c]; exact k4
      · exact absurd (k3 j c) hn
    · exact absurd (k1 j h1 h2) hn
  · intro h
    exact Or.inl ⟨j, h1, h2, he, h⟩
theorem aT_all {m m' : Nat} {E E' : Nat → Nat} (he : ∀ i, i < m → i < m' → E i = E' i) : aT m E m' E' ↔ m < m' := by
  constructor
  · rintro (⟨k, k1, k2, k3, k4⟩ | ⟨k1, k2⟩)
    · have := he k k1 k2; omega
    · exact k2
  · intro h
    exact Or.inr ⟨he, h⟩
theorem dI {a b : Nat} (ha : a < 100) (hb : b < 100) : (nI a - nI b < 0 ↔ a < b) ∧ (0 < nI a - nI b ↔ b < a) ∧ (nI a - nI b = 0 ↔ a = b) := by
  have e : (nI a - nI b).toInt = (a : Int) - (b : Int) := by
    rw [Int32.toInt_sub, nI_toInt (by omega), nI_toInt (by omega), Int.bmod_eq_of_le (by omega) (by omega)]
  refine ⟨?_, ?_, ?_⟩
  · rw [ltI, e, i0]; omega
  · rw [ltI, e, i0]; omega
  · rw [← Int32.toInt_inj, e, i0]; omega
theorem cmpC {m m' q q' : Nat} {E E' : Nat → Nat} {f g : Nat → Int32} (hm : m ≤ q) (hm' : m' ≤ q') (hq : q ≤ 18) (hq' : q' ≤ 18) (hf : ∀ k, k < m → E k < 10 ∧ f k = nI (E k)) (hg : ∀ k, k < m' → E' k < 10 ∧ g k = nI (E' k)) : ∃ v, q_X5_compareAsText (nI m) (nI m') q f q' g = some v ∧ (v < 0 ↔ aT m E m' E') ∧ (0 < v ↔ aT m' E' m E) ∧ (v = 0 ↔ eT m E m' E') := by
  obtain ⟨r, hr, h⟩ := loop_inv (F := fun k (x : Int32) => q_X5_compareAsText_L14 (nI (min m m')) q f q' g k x)
    (fun i x => x = nI i ∧ ∀ k, k < i → E k = E' k)
    (fun r => (∃ x, r = Sum.inl x ∧ ∀ k, k < min m m' → E k = E' k) ∨ (∃ j, r = Sum.inr (nI (E j) - nI (E' j)) ∧ j < m ∧ j < m' ∧ (∀ k, k < j → E k = E' k) ∧ ¬ E j = E' j)) (min m m')
    (fun k x h => by
      obtain ⟨rfl, h2⟩ := h
      refine ⟨_, ?_, Or.inl ⟨nI (min m m'), rfl, h2⟩⟩
      show q_X5_compareAsText_L14 _ _ _ _ _ (k + 1) (nI (min m m')) = _
      rw [q_X5_compareAsText_L14, if_pos (nI_le (Nat.le_refl _) (by omega))])
    (fun k i x hi h => by
      obtain ⟨rfl, h2⟩ := h
      have i1 : i < m := by omega
      have i2 : i < m' := by omega
      have ef : t_X5_at (nI i) q f = nI (E i) := by rw [atI (by omega) (by omega)]; exact (hf i i1).2
      have eg : t_X5_at (nI i) q' g = nI (E' i) := by rw [atI (by omega) (by omega)]; exact (hg i i2).2
      have d1 := (hf i i1).1
      have d2 := (hg i i2).1
      by_cases c : E i = E' i
      · refine Or.inr ⟨nI (i + 1), ?_, rfl, ?_⟩
        · show q_X5_compareAsText_L14 _ _ _ _ _ (k + 1) (nI i) = q_X5_compareAsText_L14 _ _ _ _ _ k (nI (i + 1))
          rw [q_X5_compareAsText_L14, if_neg (nI_ge hi (by omega)), ef, eg, if_pos (show nI (E i) = nI (E' i) by rw [c]), nI_1]
        · intro k' hk'
          by_cases e : k' = i
          · rw [e]; exact c
          · exact h2 k' (by omega)
      · refine Or.inl ⟨_, ?_, Or.inr ⟨i, rfl, i1, i2, h2, c⟩⟩
        show q_X5_compareAsText_L14 _ _ _ _ _ (k + 1) (nI i) = _
        rw [q_X5_compareAsText_L14, if_neg (nI_ge hi (by omega)), ef, eg, if_neg (ne_of_nI c (by omega) (by omega))])
    10000 0 (nI 0) ⟨rfl, fun k hk => absurd hk (Nat.not_lt_zero k)⟩ (Nat.zero_le _) (by omega)
  have hr' : q_X5_compareAsText_L14 (nI (min m m')) q f q' g 10000 0 = some r := hr
  have hmin : (if t_X5_size (nI m') < nI m then t_X5_size (nI m') else nI m) = nI (min m m') := nI_min' (by omega) (by omega)
  unfold q_X5_compareAsText
  rw [hmin, hr']
  rcases h with ⟨x, rfl, h⟩ | ⟨j, rfl, j1, j2, j3, j4⟩
  · obtain ⟨d1, d2, d3⟩ := dI (a := m) (b := m') (by omega) (by omega)
    have h1 : ∀ i, i < m → i < m' → E i = E' i := fun i i1 i2 => h i (by omega)
    refine ⟨nI m - nI m', rfl, ?_, ?_, ?_⟩
    · rw [d1, aT_all h1]
    · rw [d2, aT_all (fun i i1 i2 => (h1 i i2 i1).symm)]
    · rw [d3]
      constructor
      · intro e; exact ⟨e, fun i hi => h1 i hi (by omega)⟩
      · intro e; exact e.1
  · have e1 := (hf j j1).1
    have e2 := (hg j j2).1
    obtain ⟨d1, d2, d3⟩ := dI (a := E j) (b := E' j) (by omega) (by omega)
    refine ⟨nI (E j) - nI (E' j), rfl, ?_, ?_, ?_⟩
    · rw [d1, aT_at j1 j2 j3 j4]
    · rw [d2, aT_at j2 j1 (fun i hi => (j3 i hi).symm) (fun e => j4 e.symm)]
    · rw [d3]
      constructor
      · intro e; exact absurd e j4
      · intro e; exact e.2 j j1
/-- what the wares are -/
def WA (n : Nat) (M : Nat → Nat) (E : Nat → Nat → Nat) (a25 a26 a58 : Nat → Int32) : Prop := n ≤ 20 ∧ ∀ j, j < n → 1 ≤ M j ∧ M j ≤ 9 ∧ a26 j = nI (M j) ∧ a58 (10 * j) = nI (M j) ∧ ∀ k, k < M j → E j k < 10 ∧ a25 (9 * j + k) = nI (E j k) ∧ a58 (10 * j + 1 + k) = nI (E j k)
theorem readE {n j : Nat} {M : Nat → Nat} {E : Nat → Nat → Nat} {a25 a26 a58 a : Nat → Int32} (h : WA n M E a25 a26 a58) (hj : j < n) : ∃ g, q_X8_read (nI j) (nI 9) 20 a26 180 a25 9 a = some (nI (M j), g) ∧ ∀ k, k < M j → E j k < 10 ∧ g k = nI (E j k) := by
  obtain ⟨h20, h⟩ := h
  obtain ⟨m1, m2, m3, -, m5⟩ := h j hj
  obtain ⟨g, g1, g2⟩ := readW (s := j) (a6 := a26) (a5 := a25) (a2 := a) (by omega) m2 m3
  exact ⟨g, g1, fun k hk => ⟨(m5 k hk).1, (g2 k hk).trans (m5 k hk).2.1⟩⟩
/-- the ware with the digits -/
def sameR (n : Nat) (M : Nat → Nat) (E : Nat → Nat → Nat) (d : Nat) (D : Nat → Nat) (v : Int32) : Prop := (v = -1 ∧ ∀ j, j < n → ¬ eT (M j) (E j) d D) ∨ (∃ j, j < n ∧ v = nI j ∧ eT (M j) (E j) d D ∧ ∀ i, i < j → ¬ eT (M i) (E i) d D)
theorem sameR_u {n : Nat} {M : Nat → Nat} {E : Nat → Nat → Nat} {d : Nat} {D : Nat → Nat} {v v' : Int32} (h : sameR n M E d D v) (h' : sameR n M E d D v') : v = v' := by
  rcases h with ⟨rfl, h⟩ | ⟨j, j1, rfl, j2, j3⟩ <;> rcases h' with ⟨rfl, h'⟩ | ⟨k, k1, rfl, k2, k3⟩
  · rfl
  · exact absurd k2 (h k k1)
  · exact absurd j2 (h' j j1)
  · rcases Nat.lt_trichotomy j k with c | c | c
    · exact absurd j2 (k3 j c)
    · rw [c]
    · exact absurd k2 (j3 k c)
theorem numC {n d : Nat} {M : Nat → Nat} {E : Nat → Nat → Nat} {D : Nat → Nat} {a25 a26 a58 a18 a32 : Nat → Int32} {c31 : Int32} (h : WA n M E a25 a26 a58) (hd : d ≤ 18) (hD : ∀ k, k < d → D k < 10 ∧ a18 k = nI (D k)) : ∃ v c a, q_X10_numberOf (nI n) (nI 9) c31 a26 a25 a32 (nI d) a18 = some (v, c, a) ∧ sameR n M E d D v := by
  have h20 := h.1
  obtain ⟨r, hr, hR⟩ := loop_inv (F := fun k (x : Int32 × Int32 × (Nat → Int32)) => q_X10_numberOf_L2 (nI n) (nI 9) a26 a25 (nI d) a18 k x.1 x.2.1 x.2.2)
    (fun i x => x.1 = nI i ∧ ∀ k, k < i → ¬ eT (M k) (E k) d D)
    (fun r => (∃ x, r = Sum.inl x ∧ ∀ k, k < n → ¬ eT (M k) (E k) d D) ∨ (∃ j x, r = Sum.inr (nI j, x) ∧ j < n ∧ eT (M j) (E j) d D ∧ ∀ k, k < j → ¬ eT (M k) (E k) d D)) n
    (fun k x h => by
      obtain ⟨x1, x2, x3⟩ := x
      obtain ⟨rfl, h2⟩ := h
      refine ⟨Sum.inl (nI n, x2, x3), ?_, Or.inl ⟨(nI n, x2, x3), rfl, h2⟩⟩
      show q_X10_numberOf_L2 _ _ _ _ _ _ (k + 1) (nI n) x2 x3 = some (Sum.inl (nI n, x2, x3))
      rw [q_X10_numberOf_L2, if_pos (nI_le (Nat.le_refl _) (by omega))])
    (fun k i x hi hx => by
      obtain ⟨x1, x2, x3⟩ := x
      obtain ⟨rfl, h2⟩ := hx
      obtain ⟨g, g1, g2⟩ := readE (a := x3) h hi
      have hM := (h.2 i hi).2.1
      obtain ⟨v, v1, -, -, v4⟩ := cmpC (q := 9) (q' := 18) hM hd (by omega) (by omega) g2 hD
      by_cases c : eT (M i) (E i) d D
      · refine Or.inl ⟨_, ?_, Or.inr ⟨i, (nI (M i), g), rfl, hi, c, h2⟩⟩
        show q_X10_numberOf_L2 _ _ _ _ _ _ (k + 1) (nI i) x2 x3 = _
        rw [q_X10_numberOf_L2, if_neg (nI_ge hi (by omega)), g1, Option.bind_some, v1, Option.bind_some, if_neg (fun q => q (v4.mpr c))]
      · refine Or.inr ⟨(nI (i + 1), nI (M i), g), ?_, rfl, ?_⟩
        · show q_X10_numberOf_L2 _ _ _ _ _ _ (k + 1) (nI i) x2 x3 = q_X10_numberOf_L2 _ _ _ _ _ _ k (nI (i + 1)) (nI (M i)) g
          rw [q_X10_numberOf_L2, if_neg (nI_ge hi (by omega)), g1, Option.bind_some, v1, Option.bind_some, if_pos (fun q => c (v4.mp q)), nI_1]
        · intro k' hk'
          by_cases e : k' = i
          · rw [e]; exact c
          · exact h2 k' (by omega))
    10000 0 (nI 0, c31, a32) ⟨rfl, fun k hk => absurd hk (Nat.not_lt_zero k)⟩ (Nat.zero_le _) (by omega)
  have hr' : q_X10_numberOf_L2 (nI n) (nI 9) a26 a25 (nI d) a18 10000 0 c31 a32 = some r := hr
  unfold q_X10_numberOf
  rw [hr']
  rcases hR with ⟨x, rfl, hx⟩ | ⟨j, x, rfl, j1, j2, j3⟩
  · exact ⟨_, _, _, rfl, Or.inl ⟨rfl, hx⟩⟩
  · exact ⟨_, _, _, rfl, Or.inr ⟨j, j1, rfl, j2, j3⟩⟩
theorem numI (k : Nat) (h : k < 2147483648) : ¬ nI k = (-1 : Int32) ∧ ¬ nI k < (0 : Int32) := by
  refine ⟨fun e => ?_, nI_pos h⟩
  have := congrArg Int32.toInt e
  rw [nI_toInt h, show (-1 : Int32).toInt = -1 from rfl] at this
  omega

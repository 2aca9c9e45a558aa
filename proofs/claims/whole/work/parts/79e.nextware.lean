/-! Wares: the next one. -/
theorem aheadM {n x y : Nat} {M : Nat → Nat} {E : Nat → Nat → Nat} {a25 a26 a58 : Nat → Int32} (h : WA n M E a25 a26 a58) (hx : x < n) (hy : y < n) : ∃ v, q_X12_isAhead (nI x) (nI y) a58 = some v ∧ (v = 0 ↔ ¬ aT (M x) (E x) (M y) (E y)) := by
  obtain ⟨h20, h⟩ := h
  obtain ⟨m1, m2, -, m4, m5⟩ := h x hx
  obtain ⟨k1, k2, -, k4, k5⟩ := h y hy
  have ex : (10 : Int32) * nI x = nI (10 * x) := nI_mul 10 x
  have ey : (10 : Int32) * nI y = nI (10 * y) := nI_mul 10 y
  have x1 : xin (nI (10 * x)) 200 = true := xinI (by omega) (by omega)
  have y1 : xin (nI (10 * y)) 200 = true := xinI (by omega) (by omega)
  have hl : t_X12_lesser (nI (M x)) (nI (M y)) = nI (min (M x) (M y)) := by
    unfold t_X12_lesser
    by_cases c : M y ≤ M x
    · rw [if_pos (nI_le c (by omega)), Nat.min_eq_right c]
    · rw [if_neg (nI_ge (by omega) (by omega)), Nat.min_eq_left (by omega)]
  obtain ⟨r, hr, hR⟩ := loop_inv (F := fun k (z : Int32) => q_X12_isAhead_L25 (nI x) (nI y) (nI (min (M x) (M y))) a58 k z)
    (fun i z => z = nI i ∧ 1 ≤ i ∧ ∀ k, k + 1 < i → E x k = E y k)
    (fun r => (∃ z, r = Sum.inl z ∧ ∀ k, k < M x → k < M y → E x k = E y k) ∨ (∃ j, j < M x ∧ j < M y ∧ (∀ k, k < j → E x k = E y k) ∧ ¬ E x j = E y j ∧ r = Sum.inr (if E x j < E y j then 1 else 0))) (min (M x) (M y) + 1)
    (fun k z h => by
      obtain ⟨rfl, -, h2⟩ := h
      refine ⟨_, ?_, Or.inl ⟨nI (min (M x) (M y) + 1), rfl, fun k a b => h2 k (by omega)⟩⟩
      show q_X12_isAhead_L25 _ _ _ _ (k + 1) (nI (min (M x) (M y) + 1)) = _
      rw [q_X12_isAhead_L25, if_pos (nI_lt (by omega) (by omega))])
    (fun k i z hi h => by
      obtain ⟨rfl, h1, h2⟩ := h
      obtain ⟨j, rfl⟩ : ∃ j, i = j + 1 := ⟨i - 1, by omega⟩
      have j1 : j < M x := by omega
      have j2 : j < M y := by omega
      have e1 : a58 (10 * x + (j + 1)) = nI (E x j) := by rw [show 10 * x + (j + 1) = 10 * x + 1 + j by omega]; exact (m5 j j1).2.2
      have e2 : a58 (10 * y + (j + 1)) = nI (E y j) := by rw [show 10 * y + (j + 1) = 10 * y + 1 + j by omega]; exact (k5 j j2).2.2
      have d1 := (m5 j j1).1
      have d2 := (k5 j j2).1
      have g : ¬ nI (min (M x) (M y)) < nI (j + 1) := fun q => by have := (nI_ltI (by omega) (by omega)).mp q; omega
      have step : q_X12_isAhead_L25 (nI x) (nI y) (nI (min (M x) (M y))) a58 (k + 1) (nI (j + 1)) = if nI (E x j) = nI (E y j) then q_X12_isAhead_L25 (nI x) (nI y) (nI (min (M x) (M y))) a58 k (nI (j + 1 + 1)) else (if nI (E y j) ≤ nI (E x j) then some (Sum.inr 0) else some (Sum.inr 1)) := by
        have x2 : xin (nI (10 * x + (j + 1))) 200 = true := xinI (by omega) (by omega)
        have y2 : xin (nI (10 * y + (j + 1))) 200 = true := xinI (by omega) (by omega)
        rw [q_X12_isAhead_L25, if_neg g, ex, ey, nI_add, nI_add, if_pos x2, if_pos y2, if_pos x2, if_pos y2, nI_clamp (show 10 * x + (j + 1) < 2 ^ 31 by omega), nI_clamp (show 10 * y + (j + 1) < 2 ^ 31 by omega), e1, e2, nI_1]
      by_cases c : E x j = E y j
      · refine Or.inr ⟨nI (j + 1 + 1), ?_, rfl, by omega, ?_⟩
        · show q_X12_isAhead_L25 _ _ _ _ (k + 1) (nI (j + 1)) = q_X12_isAhead_L25 _ _ _ _ k (nI (j + 1 + 1))
          rw [step, if_pos (by rw [c])]
        · intro k' hk'
          by_cases e : k' = j
          · rw [e]; exact c
          · exact h2 k' (by omega)
      · refine Or.inl ⟨_, ?_, Or.inr ⟨j, j1, j2, fun k' hk' => h2 k' (by omega), c, rfl⟩⟩
        show q_X12_isAhead_L25 _ _ _ _ (k + 1) (nI (j + 1)) = _
        rw [step, if_neg (ne_of_nI c (by omega) (by omega))]
        by_cases c2 : E x j < E y j
        · rw [if_neg (nI_ge c2 (by omega)), if_pos c2]
        · rw [if_pos (nI_le (by omega) (by omega)), if_neg c2])
    10000 1 (nI 1) ⟨rfl, Nat.le_refl 1, fun k hk => absurd hk (by omega)⟩ (by omega) (by omega)
  have hr' : q_X12_isAhead_L25 (nI x) (nI y) (nI (min (M x) (M y))) a58 10000 1 = some r := hr
  unfold q_X12_isAhead
  rw [ex, ey, if_pos x1, if_pos y1, nI_clamp (show 10 * x < 2 ^ 31 by omega), nI_clamp (show 10 * y < 2 ^ 31 by omega), m4, k4, hl, hr']
  rcases hR with ⟨z, rfl, hz⟩ | ⟨j, j1, j2, j3, j4, rfl⟩
  · show ∃ v, (if xin (nI (10 * x)) 200 = true then (if xin (nI (10 * y)) 200 = true then (if nI (M y) ≤ nI (M x) then some (0 : Int32) else some 1) else none) else none) = some v ∧ _
    rw [if_pos x1, if_pos y1, aT_all hz]
    by_cases c : M y ≤ M x
    · rw [if_pos (nI_le c (by omega))]
      exact ⟨0, rfl, fun _ => by omega, fun _ => rfl⟩
    · rw [if_neg (nI_ge (by omega) (by omega))]
      exact ⟨1, rfl, fun q => absurd q (by decide), fun q => absurd (show M x < M y by omega) q⟩
  · rw [aT_at j1 j2 j3 j4]
    refine ⟨_, rfl, ?_⟩
    by_cases c : E x j < E y j
    · rw [if_pos c]
      exact ⟨fun q => absurd q (by decide), fun q => absurd c q⟩
    · rw [if_neg c]
      exact ⟨fun _ => c, fun _ => rfl⟩
/-- the next one of the first k -/
noncomputable def nx (M : Nat → Nat) (E : Nat → Nat → Nat) (w : Nat) : Nat → Option Nat
  | 0 => none
  | k + 1 => @ite _ (aT (M w) (E w) (M k) (E k) ∧ ∀ f, nx M E w k = some f → aT (M k) (E k) (M f) (E f)) (Classical.propDecidable _) (some k) (nx M E w k)
theorem nx_T {M : Nat → Nat} {E : Nat → Nat → Nat} {w k : Nat} (h1 : aT (M w) (E w) (M k) (E k)) (h2 : ∀ f, nx M E w k = some f → aT (M k) (E k) (M f) (E f)) : nx M E w (k + 1) = some k := if_pos ⟨h1, h2⟩
theorem nx_F {M : Nat → Nat} {E : Nat → Nat → Nat} {w k : Nat} (h : ¬ (aT (M w) (E w) (M k) (E k) ∧ ∀ f, nx M E w k = some f → aT (M k) (E k) (M f) (E f))) : nx M E w (k + 1) = nx M E w k := if_neg h
theorem nx_lt {M : Nat → Nat} {E : Nat → Nat → Nat} {w : Nat} : ∀ k f, nx M E w k = some f → f < k := by
  intro k
  induction k with
  | zero => intro f h; exact absurd h (by intro q; cases q)
  | succ k ih =>
    intro f h
    rcases Classical.em (aT (M w) (E w) (M k) (E k) ∧ ∀ f, nx M E w k = some f → aT (M k) (E k) (M f) (E f)) with c | c
    · rw [nx_T c.1 c.2] at h
      cases h
      omega
    · rw [nx_F c] at h
      have := ih f h
      omega
def nxI (o : Option Nat) : Int32 := match o with
  | none => -1
  | some j => nI j
theorem behC {n w : Nat} {M : Nat → Nat} {E : Nat → Nat → Nat} {a25 a26 a58 a28 a30 a32 : Nat → Int32} {c29 c31 : Int32} (h : WA n M E a25 a26 a58) (hw : w < n) : ∃ c a b e f g, q_X10_numberBehind (nI w) (nI n) (nI 9) a26 a25 a28 c31 a32 c29 a30 = some (nxI (nx M E w n), c, a, b, e, f, g) := by
  have h20 := h.1
  obtain ⟨gw, gw1, gw2⟩ := readE (a := a28) h hw
  have hMw := (h.2 w hw).2.1
  obtain ⟨r, hr, hR⟩ := loop_inv (F := fun k (x : Int32 × Int32 × Int32 × (Nat → Int32) × Int32 × (Nat → Int32)) => q_X10_numberBehind_L16 (nI n) (nI 9) (nI (M w)) a26 a25 gw k x.1 x.2.1 x.2.2.1 x.2.2.2.1 x.2.2.2.2.1 x.2.2.2.2.2)
    (fun i x => x.1 = nxI (nx M E w i) ∧ x.2.1 = nI i ∧ ∀ f, nx M E w i = some f → x.2.2.2.2.1 = nI (M f) ∧ ∀ k, k < M f → x.2.2.2.2.2 k = nI (E f k))
    (fun r => r.1 = nxI (nx M E w n)) n
    (fun k x hx => by
      obtain ⟨x1, x2, x3, x4, x5, x6⟩ := x
      obtain ⟨h1, h2, h3⟩ := hx
      have h2 : x2 = _ := h2
      subst h2
      refine ⟨(x1, nI n, x3, x4, x5, x6), ?_, h1⟩
      show q_X10_numberBehind_L16 _ _ _ _ _ _ (k + 1) x1 (nI n) x3 x4 x5 x6 = _
      rw [q_X10_numberBehind_L16, if_pos (nI_le (Nat.le_refl _) (by omega))])
    (fun k i x hi hx => by
      obtain ⟨x1, x2, x3, x4, x5, x6⟩ := x
      obtain ⟨h1, h2, h3⟩ := hx
      have h1 : x1 = _ := h1
      have h2 : x2 = _ := h2
      subst h1
      subst h2
      have h3 : ∀ f, nx M E w i = some f → x5 = nI (M f) ∧ ∀ k, k < M f → x6 k = nI (E f k) := h3
      obtain ⟨g, g1, g2⟩ := readE (a := x4) h hi
      have hM := (h.2 i hi).2.1
      obtain ⟨v, v1, -, v3, -⟩ := cmpC (q := 9) (q' := 9) hM hMw (by omega) (by omega) g2 gw2
      obtain ⟨y, y1, y2⟩ := copyC (n := M i) (m0 := 9) (m1 := 9) (f := x6) (g := g) hM hM (by omega) (by omega)
      have y3 : ∀ k, k < M i → y k = nI (E i k) := fun k hk => by rw [y2, if_pos hk]; exact (g2 k hk).2
      have b0 : q_X10_numberBehind_L16 (nI n) (nI 9) (nI (M w)) a26 a25 gw (k + 1) (nxI (nx M E w i)) (nI i) x3 x4 x5 x6 = (if v ≤ (0 : Int32) then (q_X10_numberBehind_L16 (nI n) (nI 9) (nI (M w)) a26 a25 gw k (nxI (nx M E w i)) (nI (i + 1)) (nI (M i)) g x5 x6) else (if (nxI (nx M E w i)) < (0 : Int32) then (q_X10_numberBehind_L16 (nI n) (nI 9) (nI (M w)) a26 a25 gw k (nI i) (nI (i + 1)) (nI (M i)) g (nI (M i)) y) else ((q_X5_compareAsText (nI (M i)) x5 9 g 9 x6).bind (fun y6 => (if (0 : Int32) ≤ y6 then (q_X10_numberBehind_L16 (nI n) (nI 9) (nI (M w)) a26 a25 gw k (nxI (nx M E w i)) (nI (i + 1)) (nI (M i)) g x5 x6) else (q_X10_numberBehind_L16 (nI n) (nI 9) (nI (M w)) a26 a25 gw k (nI i) (nI (i + 1)) (nI (M i)) g (nI (M i)) y)))))) := by
        rw [q_X10_numberBehind_L16, if_neg (nI_ge hi (by omega)), g1, Option.bind_some, v1, Option.bind_some]
        simp only [y1, Option.bind_some, nI_1]
      have stay : nx M E w (i + 1) = nx M E w i → (q_X10_numberBehind_L16 (nI n) (nI 9) (nI (M w)) a26 a25 gw (k + 1) (nxI (nx M E w i)) (nI i) x3 x4 x5 x6 = q_X10_numberBehind_L16 (nI n) (nI 9) (nI (M w)) a26 a25 gw k (nxI (nx M E w i)) (nI (i + 1)) (nI (M i)) g x5 x6) → ∃ s' : Int32 × Int32 × Int32 × (Nat → Int32) × Int32 × (Nat → Int32), q_X10_numberBehind_L16 (nI n) (nI 9) (nI (M w)) a26 a25 gw (k + 1) (nxI (nx M E w i)) (nI i) x3 x4 x5 x6 = q_X10_numberBehind_L16 (nI n) (nI 9) (nI (M w)) a26 a25 gw k s'.1 s'.2.1 s'.2.2.1 s'.2.2.2.1 s'.2.2.2.2.1 s'.2.2.2.2.2 ∧ s'.1 = nxI (nx M E w (i + 1)) ∧ s'.2.1 = nI (i + 1) ∧ ∀ f, nx M E w (i + 1) = some f → s'.2.2.2.2.1 = nI (M f) ∧ ∀ k, k < M f → s'.2.2.2.2.2 k = nI (E f k) := by
        intro e1 e2
        refine ⟨(nxI (nx M E w i), nI (i + 1), nI (M i), g, x5, x6), e2, ?_, rfl, ?_⟩
        · rw [e1]
        · rw [e1]; exact h3
      have move : nx M E w (i + 1) = some i → (q_X10_numberBehind_L16 (nI n) (nI 9) (nI (M w)) a26 a25 gw (k + 1) (nxI (nx M E w i)) (nI i) x3 x4 x5 x6 = q_X10_numberBehind_L16 (nI n) (nI 9) (nI (M w)) a26 a25 gw k (nI i) (nI (i + 1)) (nI (M i)) g (nI (M i)) y) → ∃ s' : Int32 × Int32 × Int32 × (Nat → Int32) × Int32 × (Nat → Int32), q_X10_numberBehind_L16 (nI n) (nI 9) (nI (M w)) a26 a25 gw (k + 1) (nxI (nx M E w i)) (nI i) x3 x4 x5 x6 = q_X10_numberBehind_L16 (nI n) (nI 9) (nI (M w)) a26 a25 gw k s'.1 s'.2.1 s'.2.2.1 s'.2.2.2.1 s'.2.2.2.2.1 s'.2.2.2.2.2 ∧ s'.1 = nxI (nx M E w (i + 1)) ∧ s'.2.1 = nI (i + 1) ∧ ∀ f, nx M E w (i + 1) = some f → s'.2.2.2.2.1 = nI (M f) ∧ ∀ k, k < M f → s'.2.2.2.2.2 k = nI (E f k) := by
        intro e1 e2
        refine ⟨(nI i, nI (i + 1), nI (M i), g, nI (M i), y), e2, ?_, rfl, ?_⟩
        · rw [e1]; rfl
        · rw [e1]
          intro f hf
          cases hf
          exact ⟨rfl, y3⟩
      have pos : v ≤ 0 ↔ ¬ aT (M w) (E w) (M i) (E i) := by
        rw [← v3, leI, ltI, i0]; omega
      refine Or.inr ?_
      by_cases c1 : v ≤ 0
      · exact stay (nx_F (fun q => pos.mp c1 q.1)) (by rw [b0, if_pos c1])
      · have c1' : aT (M w) (E w) (M i) (E i) := Classical.byContradiction (fun q => c1 (pos.mpr q))
        rw [if_neg c1] at b0
        cases hf : nx M E w i with
        | none =>
          rw [hf] at b0 move
          rw [if_pos (show nxI none < 0 by decide)] at b0
          exact move (nx_T c1' (fun f q => by rw [hf] at q; cases q)) b0
        | some f =>
          have fl := nx_lt i f hf
          obtain ⟨h5, h6⟩ := h3 f hf
          subst h5
          have hMf := (h.2 f (by omega)).2.1
          have h7 : ∀ k, k < M f → E f k < 10 ∧ x6 k = nI (E f k) := fun k hk => ⟨((h.2 f (by omega)).2.2.2.2 k hk).1, h6 k hk⟩
          obtain ⟨u, u1, u2, -, -⟩ := cmpC (q := 9) (q' := 9) hM hMf (by omega) (by omega) g2 h7
          rw [hf] at b0 move stay
          rw [if_neg (show ¬ nxI (some f) < 0 from nI_pos (by omega)), u1, Option.bind_some] at b0
          have neg : 0 ≤ u ↔ ¬ aT (M i) (E i) (M f) (E f) := by
            rw [← u2, leI, ltI, i0]; omega
          by_cases c2 : 0 ≤ u
          · rw [if_pos c2] at b0
            exact stay (by rw [nx_F (fun q => neg.mp c2 (q.2 f hf)), hf]) b0
          · rw [if_neg c2] at b0
            have c2' : aT (M i) (E i) (M f) (E f) := Classical.byContradiction (fun q => c2 (neg.mpr q))
            exact move (nx_T c1' (fun f' q => by rw [hf] at q; cases q; exact c2')) b0)
    10000 0 (-1, nI 0, c31, a32, c29, a30) ⟨rfl, rfl, fun f q => by cases q⟩ (Nat.zero_le _) (by omega)
  have hr' : q_X10_numberBehind_L16 (nI n) (nI 9) (nI (M w)) a26 a25 gw 10000 (-1) 0 c31 a32 c29 a30 = some r := hr
  refine ⟨nI (M w), gw, r.2.2.1, r.2.2.2.1, r.2.2.2.2.1, r.2.2.2.2.2, ?_⟩
  unfold q_X10_numberBehind
  rw [gw1, Option.bind_some, hr', Option.bind_some, hR]
theorem behM {n w : Nat} {M : Nat → Nat} {E : Nat → Nat → Nat} {a25 a26 a58 : Nat → Int32} (h : WA n M E a25 a26 a58) (hw : w < n) : ∃ r : Int32 × Int32, q_X12_nextWare_L26 (nI w) (nI n) a58 10000 (-1) 0 = some r ∧ r.1 = nxI (nx M E w n) := by
  have h20 := h.1
  obtain ⟨r, hr, hR⟩ := loop_inv (F := fun k (x : Int32 × Int32) => q_X12_nextWare_L26 (nI w) (nI n) a58 k x.1 x.2)
    (fun i x => x = (nxI (nx M E w i), nI i))
    (fun r => r.1 = nxI (nx M E w n)) n
    (fun k x hx => by
      subst hx
      refine ⟨(nxI (nx M E w n), nI n), ?_, rfl⟩
      show q_X12_nextWare_L26 _ _ _ (k + 1) _ (nI n) = _
      rw [q_X12_nextWare_L26, if_pos (nI_le (Nat.le_refl _) (by omega))])
    (fun k i x hi hx => by
      subst hx
      refine Or.inr ⟨(nxI (nx M E w (i + 1)), nI (i + 1)), ?_, rfl⟩
      obtain ⟨v, v1, v2⟩ := aheadM h hw hi
      show q_X12_nextWare_L26 _ _ _ (k + 1) (nxI (nx M E w i)) (nI i) = q_X12_nextWare_L26 _ _ _ k (nxI (nx M E w (i + 1))) (nI (i + 1))
      rw [q_X12_nextWare_L26, if_neg (nI_ge hi (by omega)), v1, Option.bind_some, nI_1]
      by_cases c1 : v = 0
      · rw [if_pos c1, nx_F (fun q => v2.mp c1 q.1)]
      · have c1' : aT (M w) (E w) (M i) (E i) := Classical.byContradiction (fun q => c1 (v2.mpr q))
        rw [if_neg c1]
        cases hf : nx M E w i with
        | none =>
          rw [nx_T c1' (fun f q => by rw [hf] at q; cases q), if_pos (show nxI none = -1 from rfl)]
          rfl
        | some f =>
          have fl := nx_lt i f hf
          obtain ⟨u, u1, u2⟩ := aheadM h hi (show f < n by omega)
          rw [if_neg (show ¬ nxI (some f) = -1 from (numI f (by omega)).1)]
          show ((q_X12_isAhead (nI i) (nI f) a58).bind _) = _
          rw [u1, Option.bind_some]
          by_cases c2 : u = 0
          · rw [if_pos c2, nx_F (fun q => u2.mp c2 (q.2 f hf)), hf]
          · have c2' : aT (M i) (E i) (M f) (E f) := Classical.byContradiction (fun q => c2 (u2.mpr q))
            rw [if_neg c2, nx_T c1' (fun f' q => by rw [hf] at q; cases q; exact c2')]
            rfl)
    10000 0 (-1, nI 0) rfl (Nat.zero_le _) (by omega)
  exact ⟨r, hr, hR⟩
theorem M_32 : MS_32 := by
  intro S l4 c23_4 c24_0 a26 a25 a28 c31_1 a32 c29_1 a30 c27_1 a66 c48_22 a58 c1_1 a2 c48_17 a49 c3_1 c3_2 c4_0 a5 a6 c48_20 a52 c8_0 c8_1 c8_2 c8_3 c8_4 c8_5 c48_24 c48_25 c48_26 c48_27 c48_28 c7_0 c7_1 c7_2 c7_3 c7_4 c7_5 a10 a11 a53 c17_1 a18 c48_21 a57 a22 x1 x2 x3 x4 x5 hB hP hK h7 hS hD hW hC
  obtain ⟨n, hn, rfl, rfl, rfl, hw⟩ := hW
  obtain ⟨M, E, hw⟩ := skW hw
  have h : WA n M E a25 a26 a58 := ⟨hn, hw⟩
  unfold q_case32
  generalize S.2 (l4 + (1 : Int32)).toNatClampNeg = p1
  rcases cls p1 (n := n) (by omega) with ⟨w, hw', rfl⟩ | hF
  · obtain ⟨c, a, b, e, f, g, e1⟩ := behC (a28 := a28) (a30 := a30) (a32 := a32) (c29 := c29_1) (c31 := c31_1) h hw'
    obtain ⟨r, r1, r2⟩ := behM h hw'
    have hh : t_X10_has (nI w) (nI n) = 1 := by
      unfold t_X10_has
      rw [if_neg (nI_pos (by omega)), if_neg (nI_ge hw' (by omega))]
    have g1 : t_X12_in (nI w).toInt64 0 (nI n - 1).toInt64 = 1 := isPT hw' (by omega)
    have f1 : q_X11_nextWare (nI w) (nI n) (nI 9) a26 a25 a28 c31_1 a32 c29_1 a30 c27_1 = some (.inr (nxI (nx M E w n)), (a, b, e, f, g, c)) := by
      unfold q_X11_nextWare
      rw [hh, ite10, e1]
      rfl
    have f2 : q_X12_nextWare (nI w) (nI n) a58 = some (nxI (nx M E w n), 0) := by
      unfold q_X12_nextWare
      rw [g1, ite10, r1, Option.bind_some, r2]
      rfl
    simp only [x1, if_true, q_L_nextWare, f1, xbnd, Option.bind_some, f2, t_X12_thrown, ite00, c0, updL_eq, lgs]
    exact ⟨_, rfl⟩
  · have hh : t_X10_has p1 (nI n) = 0 := by
      unfold t_X10_has
      by_cases c : p1 < 0
      · rw [if_pos c]
      · rw [if_neg c, if_pos]
        rw [ltI, i0] at c
        rw [leI, nI_toInt (by omega)]
        omega
    have g1 : t_X12_in p1.toInt64 0 (nI n - 1).toInt64 = 0 := isPF hF (by omega)
    have f1 : q_X11_nextWare p1 (nI n) (nI 9) a26 a25 a28 c31_1 a32 c29_1 a30 c27_1 = some (.inl 2, (a28, c31_1, a32, c29_1, a30, c27_1)) := by
      unfold q_X11_nextWare
      rw [hh, ite00]
    have f2 : q_X12_nextWare p1 (nI n) a58 = some (0, 1) := by
      unfold q_X12_nextWare
      rw [g1, ite00]
      rfl
    simp only [x1, if_true, q_L_nextWare, f1, xbnd, Option.bind_some, f2, t_X12_thrown]
    exact ⟨_, rfl⟩

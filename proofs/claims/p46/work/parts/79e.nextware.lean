/-! Wares: the next one. -/
/-- the next one of the first k -/
noncomputable def nx (M : Nat → Nat) (E : Nat → Nat → Nat) (w : Nat) : Nat → Option Nat
  | 0 => none
  | k + 1 => @ite _ (aT (M w) (E w) (M k) (E k) ∧ ∀ f, nx M E w k = some f → aT (M k) (E k) (M f) (E f)) (Classical.propDecidable _) (some k) (nx M E w k)
theorem nx_T {M : Nat → Nat} {E : Nat → Nat → Nat} {w k : Nat} (h1 : aT (M w) (E w) (M k) (E k)) (h2 : ∀ f, nx M E w k = some f → aT (M k) (E k) (M f) (E f)) : nx M E w (k + 1) = some k := if_pos ⟨h1, h2⟩
theorem nx_F {M : Nat → Nat} {E : Nat → Nat → Nat} {w k : Nat} (h : ¬ (aT (M w) (E w) (M k) (E k) ∧ ∀ f, nx M E w k = some f → aT (M k) (E k) (M f) (E f))) : nx M E w (k + 1) = nx M E w k := if_neg h
theorem nx_lt {M : Nat → Nat} {E : Nat → Nat → Nat} {w : Nat} : ∀ k f, nx M E w k = some f → f < k := by
  intro k
  induction k with
  | zero => intro f h; exact absurd h (by intro q; cases q)
  | succ k ih =>
    intro f h
    rcases Classical.em (aT (M w) (E w) (M k) (E k) ∧ ∀ f, nx M E w k = some f → aT (M k) (E k) (M f) (E f)) with c | c
    · rw [nx_T c.1 c.2] at h
      cases h
      omega
    · rw [nx_F c] at h
      have := ih f h
      omega
def nxI (o : Option Nat) : Int32 := match o with
  | none => -1
  | some j => nI j
theorem behC {n w : Nat} {M : Nat → Nat} {E : Nat → Nat → Nat} {a25 a26 a58 a28 a30 a32 : Nat → Int32} {c29 c31 : Int32} (h : WA n M E a25 a26 a58) (hw : w < n) : ∃ c a b e f g, q_X10_numberBehind (nI w) (nI n) (nI 9) a26 a25 a28 c31 a32 c29 a30 = some (nxI (nx M E w n), c, a, b, e, f, g) := by
  have h20 := h.1
  obtain ⟨gw, gw1, gw2⟩ := readE (a := a28) h hw
  have hMw := (h.2 w hw).2.1
  obtain ⟨r, hr, hR⟩ := loop_inv (F := fun k (x : Int32 × Int32 × Int32 × (Nat → Int32) × Int32 × (Nat → Int32)) => q_X10_numberBehind_L16 (nI n) (nI 9) (nI (M w)) a26 a25 gw k x.1 x.2.1 x.2.2.1 x.2.2.2.1 x.2.2.2.2.1 x.2.2.2.2.2)
    (fun i x => x.1 = nxI (nx M E w i) ∧ x.2.1 = nI i ∧ ∀ f, nx M E w i = some f → x.2.2.2.2.1 = nI (M f) ∧ ∀ k, k < M f → x.2.2.2.2.2 k = nI (E f k))
    (fun r => r.1 = nxI (nx M E w n)) n
    (fun k x hx => by
      obtain ⟨x1, x2, x3, x4, x5, x6⟩ := x
      obtain ⟨h1, h2, h3⟩ := hx
      have h2 : x2 = _ := h2
      subst h2
      refine ⟨(x1, nI n, x3, x4, x5, x6), ?_, h1⟩
      show q_X10_numberBehind_L16 _ _ _ _ _ _ (k + 1) x1 (nI n) x3 x4 x5 x6 = _
      rw [q_X10_numberBehind_L16, if_pos (nI_le (Nat.le_refl _) (by omega))])
    (fun k i x hi hx => by
      obtain ⟨x1, x2, x3, x4, x5, x6⟩ := x
      obtain ⟨h1, h2, h3⟩ := hx
      have h1 : x1 = _ := h1
      have h2 : x2 = _ := h2
      subst h1
      subst h2
      have h3 : ∀ f, nx M E w i = some f → x5 = nI (M f) ∧ ∀ k, k < M f → x6 k = nI (E f k) := h3
      obtain ⟨g, g1, g2⟩ := readE (a := x4) h hi
      have hM := (h.2 i hi).2.1
      obtain ⟨v, v1, -, v3, -⟩ := cmpC (q := 9) (q' := 9) hM hMw (by omega) (by omega) g2 gw2
      obtain ⟨y, y1, y2⟩ := copyC (n := M i) (m0 := 9) (m1 := 9) (f := x6) (g := g) hM hM (by omega) (by omega)
      have y3 : ∀ k, k < M i → y k = nI (E i k) := fun k hk => by rw [y2, if_pos hk]; exact (g2 k hk).2
      have b0 : q_X10_numberBehind_L16 (nI n) (nI 9) (nI (M w)) a26 a25 gw (k + 1) (nxI (nx M E w i)) (nI i) x3 x4 x5 x6 = (if v ≤ (0 : Int32) then (q_X10_numberBehind_L16 (nI n) (nI 9) (nI (M w)) a26 a25 gw k (nxI (nx M E w i)) (nI (i + 1)) (nI (M i)) g x5 x6) else (if (nxI (nx M E w i)) < (0 : Int32) then (q_X10_numberBehind_L16 (nI n) (nI 9) (nI (M w)) a26 a25 gw k (nI i) (nI (i + 1)) (nI (M i)) g (nI (M i)) y) else ((q_X5_compareAsText (nI (M i)) x5 9 g 9 x6).bind (fun y6 => (if (0 : Int32) ≤ y6 then (q_X10_numberBehind_L16 (nI n) (nI 9) (nI (M w)) a26 a25 gw k (nxI (nx M E w i)) (nI (i + 1)) (nI (M i)) g x5 x6) else (q_X10_numberBehind_L16 (nI n) (nI 9) (nI (M w)) a26 a25 gw k (nI i) (nI (i + 1)) (nI (M i)) g (nI (M i)) y)))))) := by
        rw [q_X10_numberBehind_L16, if_neg (nI_ge hi (by omega)), g1, Option.bind_some, v1, Option.bind_some]
        simp only [y1, Option.bind_some, nI_1]
      have stay : nx M E w (i + 1) = nx M E w i → (q_X10_numberBehind_L16 (nI n) (nI 9) (nI (M w)) a26 a25 gw (k + 1) (nxI (nx M E w i)) (nI i) x3 x4 x5 x6 = q_X10_numberBehind_L16 (nI n) (nI 9) (nI (M w)) a26 a25 gw k (nxI (nx M E w i)) (nI (i + 1)) (nI (M i)) g x5 x6) → ∃ s' : Int32 × Int32 × Int32 × (Nat → Int32) × Int32 × (Nat → Int32), q_X10_numberBehind_L16 (nI n) (nI 9) (nI (M w)) a26 a25 gw (k + 1) (nxI (nx M E w i)) (nI i) x3 x4 x5 x6 = q_X10_numberBehind_L16 (nI n) (nI 9) (nI (M w)) a26 a25 gw k s'.1 s'.2.1 s'.2.2.1 s'.2.2.2.1 s'.2.2.2.2.1 s'.2.2.2.2.2 ∧ s'.1 = nxI (nx M E w (i + 1)) ∧ s'.2.1 = nI (i + 1) ∧ ∀ f, nx M E w (i + 1) = some f → s'.2.2.2.2.1 = nI (M f) ∧ ∀ k, k < M f → s'.2.2.2.2.2 k = nI (E f k) := by
        intro e1 e2
        refine ⟨(nxI (nx M E w i), nI (i + 1), nI (M i), g, x5, x6), e2, ?_, rfl, ?_⟩
        · rw [e1]
        · rw [e1]; exact h3
      have move : nx M E w (i + 1) = some i → (q_X10_numberBehind_L16 (nI n) (nI 9) (nI (M w)) a26 a25 gw (k + 1) (nxI (nx M E w i)) (nI i) x3 x4 x5 x6 = q_X10_numberBehind_L16 (nI n) (nI 9) (nI (M w)) a26 a25 gw k (nI i) (nI (i + 1)) (nI (M i)) g (nI (M i)) y) → ∃ s' : Int32 × Int32 × Int32 × (Nat → Int32) × Int32 × (Nat → Int32), q_X10_numberBehind_L16 (nI n) (nI 9) (nI (M w)) a26 a25 gw (k + 1) (nxI (nx M E w i)) (nI i) x3 x4 x5 x6 = q_X10_numberBehind_L16 (nI n) (nI 9) (nI (M w)) a26 a25 gw k s'.1 s'.2.1 s'.2.2.1 s'.2.2.2.1 s'.2.2.2.2.1 s'.2.2.2.2.2 ∧ s'.1 = nxI (nx M E w (i + 1)) ∧ s'.2.1 = nI (i + 1) ∧ ∀ f, nx M E w (i + 1) = some f → s'.2.2.2.2.1 = nI (M f) ∧ ∀ k, k < M f → s'.2.2.2.2.2 k = nI (E f k) := by
        intro e1 e2
        refine ⟨(nI i, nI (i + 1), nI (M i), g, nI (M i), y), e2, ?_, rfl, ?_⟩
        · rw [e1]; rfl
        · rw [e1]
          intro f hf
          cases hf
          exact ⟨rfl, y3⟩
      have pos : v ≤ 0 ↔ ¬ aT (M w) (E w) (M i) (E i) := by
        rw [← v3, leI, ltI, i0]; omega
      refine Or.inr ?_
      by_cases c1 : v ≤ 0
      · exact stay (nx_F (fun q => pos.mp c1 q.1)) (by rw [b0, if_pos c1])
      · have c1' : aT (M w) (E w) (M i) (E i) := Classical.byContradiction (fun q => c1 (pos.mpr q))
        rw [if_neg c1] at b0
        cases hf : nx M E w i with
        | none =>
          rw [hf] at b0 move
          rw [if_pos (show nxI none < 0 by decide)] at b0
          exact move (nx_T c1' (fun f q => by rw [hf] at q; cases q)) b0
        | some f =>
          have fl := nx_lt i f hf
          obtain ⟨h5, h6⟩ := h3 f hf
          subst h5
          have hMf := (h.2 f (by omega)).2.1
          have h7 : ∀ k, k < M f → E f k < 10 ∧ x6 k = nI (E f k) := fun k hk => ⟨((h.2 f (by omega)).2.2.2.2 k hk).1, h6 k hk⟩
          obtain ⟨u, u1, u2, -, -⟩ := cmpC (q := 9) (q' := 9) hM hMf (by omega) (by omega) g2 h7
          rw [hf] at b0 move stay
          rw [if_neg (show ¬ nxI (some f) < 0 from nI_pos (by omega)), u1, Option.bind_some] at b0
          have neg : 0 ≤ u ↔ ¬ aT (M i) (E i) (M f) (E f) := by
            rw [← u2, leI, ltI, i0]; omega
          by_cases c2 : 0 ≤ u
          · rw [if_pos c2] at b0
            exact stay (by rw [nx_F (fun q => neg.mp c2 (q.2 f hf)), hf]) b0
          · rw [if_neg c2] at b0
            have c2' : aT (M i) (E i) (M f) (E f) := Classical.byContradiction (fun q => c2 (neg.mpr q))
            exact move (nx_T c1' (fun f' q => by rw [hf] at q; cases q; exact c2')) b0)
    10000 0 (-1, nI 0, c31, a32, c29, a30) ⟨rfl, rfl, fun f q => by cases q⟩ (Nat.zero_le _) (by omega)
  have hr' : q_X10_numberBehind_L16 (nI n) (nI 9) (nI (M w)) a26 a25 gw 10000 (-1) 0 c31 a32 c29 a30 = some r := hr
  refine ⟨nI (M w), gw, r.2.2.1, r.2.2.2.1, r.2.2.2.2.1, r.2.2.2.2.2, ?_⟩
  unfold q_X10_numberBehind
  rw [gw1, Option.bind_some, hr', Option.bind_some, hR]

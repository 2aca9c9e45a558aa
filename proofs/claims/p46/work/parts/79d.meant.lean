/-! Wares: the one that is meant, and the next one. -/
/-- how many digits are unlike, the first one and the last one -/
def us (E D : Nat → Nat) : Nat → Nat × Nat × Nat
  | 0 => (0, 0, 0)
  | k + 1 => if E k = D k then us E D k else ((us E D k).1 + 1, if (us E D k).1 = 0 then k else (us E D k).2.1, k)
theorem us_T {E D : Nat → Nat} {k : Nat} (h : E k = D k) : us E D (k + 1) = us E D k := if_pos h
theorem us_F {E D : Nat → Nat} {k : Nat} (h : ¬ E k = D k) : us E D (k + 1) = ((us E D k).1 + 1, if (us E D k).1 = 0 then k else (us E D k).2.1, k) := if_neg h
theorem us_le (E D : Nat → Nat) : ∀ k, (us E D k).1 ≤ k := by
  intro k
  induction k with
  | zero => exact Nat.le_refl 0
  | succ k ih =>
    by_cases c : E k = D k
    · rw [us_T c]; omega
    · rw [us_F c]; show (us E D k).1 + 1 ≤ _; omega
theorem us_inv (E D : Nat → Nat) : ∀ k, ((us E D k).1 = 0 → (us E D k).2.2 = 0 ∧ ∀ i, i < k → E i = D i) ∧ (0 < (us E D k).1 → (us E D k).2.1 ≤ (us E D k).2.2 ∧ (us E D k).2.2 < k ∧ ¬ E (us E D k).2.2 = D (us E D k).2.2) ∧ ((us E D k).1 = 1 → (us E D k).2.1 = (us E D k).2.2 ∧ ∀ i, i < k → ¬ i = (us E D k).2.2 → E i = D i) ∧ ((us E D k).1 = 2 → (us E D k).2.1 < (us E D k).2.2 ∧ ∀ i, i < k → ¬ i = (us E D k).2.1 → ¬ i = (us E D k).2.2 → E i = D i) := by
  intro k
  induction k with
  | zero => exact ⟨fun _ => ⟨rfl, fun i hi => absurd hi (Nat.not_lt_zero i)⟩, fun h => absurd h (Nat.lt_irrefl 0), fun h => absurd h (show ¬ (0 : Nat) = 1 by decide), fun h => absurd h (show ¬ (0 : Nat) = 2 by decide)⟩
  | succ k ih =>
    obtain ⟨h0, h1, h2, h3⟩ := ih
    by_cases c : E k = D k
    · rw [us_T c]
      refine ⟨fun e => ⟨(h0 e).1, fun i hi => ?_⟩, fun e => ⟨(h1 e).1, by have := (h1 e).2.1; omega, (h1 e).2.2⟩, fun e => ⟨(h2 e).1, fun i hi n1 => ?_⟩, fun e => ⟨(h3 e).1, fun i hi n1 n2 => ?_⟩⟩
      · by_cases g : i = k
        · rw [g]; exact c
        · exact (h0 e).2 i (by omega)
      · by_cases g : i = k
        · rw [g]; exact c
        · exact (h2 e).2 i (by omega) n1
      · by_cases g : i = k
        · rw [g]; exact c
        · exact (h3 e).2 i (by omega) n1 n2
    · rw [us_F c]
      generalize us E D k = u at *
      obtain ⟨u1, u2, u3⟩ := u
      show (u1 + 1 = 0 → k = 0 ∧ _) ∧ (0 < u1 + 1 → (if u1 = 0 then k else u2) ≤ k ∧ k < k + 1 ∧ ¬ E k = D k) ∧ (u1 + 1 = 1 → (if u1 = 0 then k else u2) = k ∧ ∀ i, i < k + 1 → ¬ i = k → E i = D i) ∧ (u1 + 1 = 2 → (if u1 = 0 then k else u2) < k ∧ ∀ i, i < k + 1 → ¬ i = (if u1 = 0 then k else u2) → ¬ i = k → E i = D i)
      have h0 : u1 = 0 → u3 = 0 ∧ ∀ i, i < k → E i = D i := h0
      have h1 : 0 < u1 → u2 ≤ u3 ∧ u3 < k ∧ ¬ E u3 = D u3 := h1
      have h2 : u1 = 1 → u2 = u3 ∧ ∀ i, i < k → ¬ i = u3 → E i = D i := h2
      refine ⟨fun e => absurd e (by omega), fun _ => ⟨?_, by omega, c⟩, fun e => ?_, fun e => ?_⟩
      · by_cases z : u1 = 0
        · rw [if_pos z]; omega
        · rw [if_neg z]; have := h1 (by omega); omega
      · have z : u1 = 0 := by omega
        rw [if_pos z]
        exact ⟨rfl, fun i hi n1 => (h0 z).2 i (by omega)⟩
      · have z : u1 = 1 := by omega
        rw [if_neg (show ¬ u1 = 0 by omega)]
        have h4 := h1 (by omega)
        have h5 := h2 z
        exact ⟨by omega, fun i hi n1 n2 => h5.2 i (by omega) (by omega)⟩
/-- whether one slip makes them of these -/
def nV (E D : Nat → Nat) (m : Nat) : Int32 := if (us E D m).1 = 1 then 1 else if (us E D m).1 = 2 then (if (us E D m).2.2 = (us E D m).2.1 + 1 ∧ E (us E D m).2.1 = D (us E D m).2.2 ∧ E (us E D m).2.2 = D (us E D m).2.1 then 1 else 0) else 0
def nW (m : Nat) (E : Nat → Nat) (d : Nat) (D : Nat → Nat) : Int32 := if m = d then nV E D m else 0
theorem nearC {m d : Nat} {E D : Nat → Nat} {f a18 : Nat → Int32} (hm : m ≤ 9) (hd : d ≤ 18) (hf : ∀ k, k < m → E k < 10 ∧ f k = nI (E k)) (hD : ∀ k, k < d → D k < 10 ∧ a18 k = nI (D k)) : q_X10_isOneSlip (nI m) (nI d) f a18 = some (nW m E d D) := by
  unfold q_X10_isOneSlip nW
  rw [show t_X5_size (nI m) = nI m from rfl, show t_X5_size (nI d) = nI d from rfl]
  by_cases c : m = d
  · subst c
    rw [if_pos rfl, if_pos rfl]
    obtain ⟨r, hr, r1, r2⟩ := loop_inv (F := fun k (x : Int32 × Int32 × Int32) => q_X10_isOneSlip_L20 (nI m) f a18 k x.1 x.2.1 x.2.2)
      (fun i x => x = (nI (us E D i).1, nI (us E D i).2.2, nI i))
      (fun r => r.1 = nI (us E D m).1 ∧ r.2.1 = nI (us E D m).2.2) m
      (fun k x h => by
        subst h
        refine ⟨(nI (us E D m).1, nI (us E D m).2.2, nI m), ?_, rfl, rfl⟩
        show q_X10_isOneSlip_L20 _ _ _ (k + 1) _ _ (nI m) = some (nI (us E D m).1, nI (us E D m).2.2, nI m)
        rw [q_X10_isOneSlip_L20, show t_X5_size (nI m) = nI m from rfl, if_pos (nI_le (Nat.le_refl _) (by omega))])
      (fun k i x hi h => by
        subst h
        refine Or.inr ⟨(nI (us E D (i + 1)).1, nI (us E D (i + 1)).2.2, nI (i + 1)), ?_, rfl⟩
        have ef : t_X5_at (nI i) 9 f = nI (E i) := by rw [atI (by omega) (by omega)]; exact (hf i hi).2
        have eg : t_X5_at (nI i) 18 a18 = nI (D i) := by rw [atI (by omega) (by omega)]; exact (hD i hi).2
        have d1 := (hf i hi).1
        have d2 := (hD i hi).1
        show q_X10_isOneSlip_L20 _ _ _ (k + 1) (nI (us E D i).1) (nI (us E D i).2.2) (nI i) = q_X10_isOneSlip_L20 _ _ _ k (nI (us E D (i + 1)).1) (nI (us E D (i + 1)).2.2) (nI (i + 1))
        rw [q_X10_isOneSlip_L20, show t_X5_size (nI m) = nI m from rfl, if_neg (nI_ge hi (by omega)), ef, eg]
        by_cases c : E i = D i
        · rw [us_T c, if_pos (show nI (E i) = nI (D i) by rw [c]), if_pos (show nI (E i) = nI (D i) by rw [c]), nI_1]
        · have c' : ¬ nI (E i) = nI (D i) := ne_of_nI c (by omega) (by omega)
          rw [us_F c, if_neg c', if_neg c', nI_1, nI_1])
      10000 0 (nI 0, nI 0, nI 0) rfl (Nat.zero_le _) (by omega)
    have hr' : q_X10_isOneSlip_L20 (nI m) f a18 10000 0 0 0 = some r := hr
    obtain ⟨i0', i1', i2', i3'⟩ := us_inv E D m
    have il := us_le E D m
    rw [hr', Option.bind_some, r1, r2]
    unfold nV
    generalize us E D m = u at *
    obtain ⟨u1, u2, u3⟩ := u
    have i1' : 0 < u1 → u2 ≤ u3 ∧ u3 < m ∧ ¬ E u3 = D u3 := i1'
    have i3' : u1 = 2 → u2 < u3 ∧ ∀ i, i < m → ¬ i = u2 → ¬ i = u3 → E i = D i := i3'
    have il : u1 ≤ m := il
    show (if nI u1 = 1 then _ else _) = some (if u1 = 1 then 1 else if u1 = 2 then (if u3 = u2 + 1 ∧ E u2 = D u3 ∧ E u3 = D u2 then 1 else 0) else 0)
    by_cases c1 : u1 = 1
    · subst c1
      rw [if_pos (show nI 1 = (1 : Int32) from rfl), if_pos rfl]
    · rw [if_neg (show ¬ nI u1 = (1 : Int32) from ne_of_nI (b := 1) c1 (by omega) (by omega)), if_neg c1]
      by_cases c2 : u1 = 2
      · subst c2
        obtain ⟨j1, j2, j3⟩ := i1' (by omega)
        obtain ⟨j4, j5⟩ := i3' rfl
        have f3 := hf u3 j2
        have g3 := hD u3 j2
        have f2 := hf (u3 - 1) (by omega)
        have g2 := hD (u3 - 1) (by omega)
        have ef3 : t_X5_at (nI u3) 9 f = nI (E u3) := by rw [atI (by omega) (by omega)]; exact f3.2
        have eg3 : t_X5_at (nI u3) 18 a18 = nI (D u3) := by rw [atI (by omega) (by omega)]; exact g3.2
        have ef2 : t_X5_at (nI (u3 - 1)) 9 f = nI (E (u3 - 1)) := by rw [atI (by omega) (by omega)]; exact f2.2
        have eg2 : t_X5_at (nI (u3 - 1)) 18 a18 = nI (D (u3 - 1)) := by rw [atI (by omega) (by omega)]; exact g2.2
        have b1 := f3.1
        have b2 := g3.1
        have b3 := f2.1
        have b4 := g2.1
        rw [if_neg (show ¬ ¬ nI 2 = (2 : Int32) from fun h => h rfl), if_neg (show ¬ nI u3 ≤ (0 : Int32) from nI_ge (a := 0) (by omega) (by omega)), if_pos rfl, nI_pred' (by omega), ef3, eg3, ef2, eg2]
        by_cases c3 : E (u3 - 1) = D u3
        · rw [if_neg (show ¬ ¬ nI (E (u3 - 1)) = nI (D u3) from fun h => h (by rw [c3]))]
          by_cases c4 : E u3 = D (u3 - 1)
          · rw [if_neg (show ¬ ¬ nI (E u3) = nI (D (u3 - 1)) from fun h => h (by rw [c4]))]
            have h5 : u3 - 1 = u2 := by
              apply Classical.byContradiction
              intro q
              have := j5 (u3 - 1) (by omega) q (by omega)
              exact j3 (by rw [c4, ← this, c3])
            rw [h5] at c3 c4
            rw [if_pos ⟨by omega, c3, c4⟩]
          · rw [if_pos (show ¬ nI (E u3) = nI (D (u3 - 1)) from ne_of_nI c4 (by omega) (by omega)), if_neg]
            rintro ⟨q1, q2, q3⟩
            rw [show u3 - 1 = u2 by omega] at c4
            exact c4 q3
        · rw [if_pos (show ¬ nI (E (u3 - 1)) = nI (D u3) from ne_of_nI c3 (by omega) (by omega)), if_neg]
          rintro ⟨q1, q2, q3⟩
          rw [show u3 - 1 = u2 by omega] at c3
          exact c3 q2
      · rw [if_pos (show ¬ nI u1 = (2 : Int32) from ne_of_nI (b := 2) c2 (by omega) (by omega)), if_neg c2]
  · rw [if_neg (ne_of_nI c (by omega) (by omega)), if_neg c]
/-- the one of which N holds, or none, or several -/
def onlyR (n : Nat) (N : Nat → Prop) (v : Int32) : Prop := (v = -1 ∧ ∀ j, j < n → ¬ N j) ∨ (∃ j, j < n ∧ v = nI j ∧ N j ∧ ∀ i, i < n → N i → i = j) ∨ (v = -2 ∧ ∃ i j, i < j ∧ j < n ∧ N i ∧ N j)
theorem onlyR_u {n : Nat} {N : Nat → Prop} {v v' : Int32} (h : onlyR n N v) (h' : onlyR n N v') : v = v' := by
  rcases h with ⟨rfl, h⟩ | ⟨j, j1, rfl, j2, j3⟩ | ⟨rfl, i, j, ij, j1, j2, j3⟩ <;> rcases h' with ⟨rfl, h'⟩ | ⟨k, k1, rfl, k2, k3⟩ | ⟨rfl, i', k, ik, k1, k2, k3⟩
  · rfl
  · exact absurd k2 (h k k1)
  · exact absurd k3 (h k k1)
  · exact absurd j2 (h' j j1)
  · rw [k3 j j1 j2]
  · have e1 := j3 i' (by omega) k2
    have e2 := j3 k k1 k3
    omega
  · exact absurd j3 (h' j j1)
  · have e1 := k3 i (by omega) j2
    have e2 := k3 j j1 j3
    omega
  · rfl
theorem nnC {n d : Nat} {M : Nat → Nat} {E : Nat → Nat → Nat} {D : Nat → Nat} {a25 a26 a58 a18 a32 : Nat → Int32} {c31 : Int32} (h : WA n M E a25 a26 a58) (hd : d ≤ 18) (hD : ∀ k, k < d → D k < 10 ∧ a18 k = nI (D k)) : ∃ v c a, q_X10_numberNear (nI n) (nI 9) c31 a26 a25 a32 (nI d) a18 = some (v, c, a) ∧ onlyR n (fun j => ¬ nW (M j) (E j) d D = 0) v := by
  have h20 := h.1
  obtain ⟨r, hr, hR⟩ := loop_inv (F := fun k (x : Int32 × Int32 × Int32 × (Nat → Int32)) => q_X10_numberNear_L4 (nI n) (nI 9) a26 a25 (nI d) a18 k x.1 x.2.1 x.2.2.1 x.2.2.2)
    (fun i x => x.2.1 = nI i ∧ ((x.1 = -1 ∧ ∀ k, k < i → ¬ ¬ nW (M k) (E k) d D = 0) ∨ (∃ j, j < i ∧ x.1 = nI j ∧ (¬ nW (M j) (E j) d D = 0) ∧ ∀ k, k < i → (¬ nW (M k) (E k) d D = 0) → k = j)))
    (fun r => ∃ v c a, (xlp (some r) (fun y1 => (some (y1.1, y1.2.2.1, y1.2.2.2))) (fun y1 => (some (y1.1, y1.2.1, y1.2.2)))) = some (v, c, a) ∧ onlyR n (fun j => ¬ nW (M j) (E j) d D = 0) v) n
    (fun k x hx => by
      obtain ⟨x1, x2, x3, x4⟩ := x
      obtain ⟨rfl, h2⟩ := hx
      refine ⟨Sum.inl (x1, nI n, x3, x4), ?_, x1, x3, x4, rfl, ?_⟩
      · show q_X10_numberNear_L4 _ _ _ _ _ _ (k + 1) x1 (nI n) x3 x4 = some (Sum.inl (x1, nI n, x3, x4))
        rw [q_X10_numberNear_L4, if_pos (nI_le (Nat.le_refl _) (by omega))]
      · rcases h2 with h2 | ⟨j, j1, j2, j3, j4⟩
        · exact Or.inl h2
        · exact Or.inr (Or.inl ⟨j, j1, j2, j3, j4⟩))
    (fun k i x hi hx => by
      obtain ⟨x1, x2, x3, x4⟩ := x
      obtain ⟨rfl, h2⟩ := hx
      have h2 : (x1 = -1 ∧ ∀ k, k < i → ¬ ¬ nW (M k) (E k) d D = 0) ∨ (∃ j, j < i ∧ x1 = nI j ∧ (¬ nW (M j) (E j) d D = 0) ∧ ∀ k, k < i → (¬ nW (M k) (E k) d D = 0) → k = j) := h2
      obtain ⟨g, g1, g2⟩ := readE (a := x4) h hi
      have hM := (h.2 i hi).2.1
      have e := nearC (D := D) (d := d) (a18 := a18) hM hd g2 hD
      have step : q_X10_numberNear_L4 (nI n) (nI 9) a26 a25 (nI d) a18 (k + 1) x1 (nI i) x3 x4 = if nW (M i) (E i) d D = 0 then q_X10_numberNear_L4 (nI n) (nI 9) a26 a25 (nI d) a18 k x1 (nI (i + 1)) (nI (M i)) g else (if x1 < 0 then q_X10_numberNear_L4 (nI n) (nI 9) a26 a25 (nI d) a18 k (nI i) (nI (i + 1)) (nI (M i)) g else some (Sum.inr (-2, nI (M i), g))) := by
        rw [q_X10_numberNear_L4, if_neg (nI_ge hi (by omega)), g1, Option.bind_some, e, Option.bind_some, nI_1]
      by_cases c : nW (M i) (E i) d D = 0
      · refine Or.inr ⟨(x1, nI (i + 1), nI (M i), g), ?_, rfl, ?_⟩
        · show q_X10_numberNear_L4 _ _ _ _ _ _ (k + 1) x1 (nI i) x3 x4 = q_X10_numberNear_L4 _ _ _ _ _ _ k x1 (nI (i + 1)) (nI (M i)) g
          rw [step, if_pos c]
        · rcases h2 with ⟨h2, h3⟩ | ⟨j, j1, j2, j3, j4⟩
          · refine Or.inl ⟨h2, fun k' hk' => ?_⟩
            by_cases e : k' = i
            · rw [e]; exact fun q => q c
            · exact h3 k' (by omega)
          · refine Or.inr ⟨j, by omega, j2, j3, fun k' hk' q => ?_⟩
            by_cases e : k' = i
            · rw [e] at q; exact absurd c q
            · exact j4 k' (by omega) q
      · rcases h2 with ⟨rfl, h3⟩ | ⟨j, j1, rfl, j3, j4⟩
        · refine Or.inr ⟨(nI i, nI (i + 1), nI (M i), g), ?_, rfl, ?_⟩
          · show q_X10_numberNear_L4 _ _ _ _ _ _ (k + 1) (-1) (nI i) x3 x4 = q_X10_numberNear_L4 _ _ _ _ _ _ k (nI i) (nI (i + 1)) (nI (M i)) g
            rw [step, if_neg c, if_pos (by decide)]
          · refine Or.inr ⟨i, by omega, rfl, c, fun k' hk' q => ?_⟩
            by_cases e : k' = i
            · exact e
            · exact absurd q (h3 k' (by omega))
        · refine Or.inl ⟨Sum.inr (-2, nI (M i), g), ?_, -2, nI (M i), g, rfl, Or.inr (Or.inr ⟨rfl, j, i, j1, hi, j3, c⟩)⟩
          show q_X10_numberNear_L4 _ _ _ _ _ _ (k + 1) (nI j) (nI i) x3 x4 = _
          rw [step, if_neg c, if_neg (numI j (by omega)).2])
    10000 0 (-1, nI 0, c31, a32) ⟨rfl, Or.inl ⟨rfl, fun k hk => absurd hk (Nat.not_lt_zero k)⟩⟩ (Nat.zero_le _) (by omega)
  have hr' : q_X10_numberNear_L4 (nI n) (nI 9) a26 a25 (nI d) a18 10000 (-1) 0 c31 a32 = some r := hr
  unfold q_X10_numberNear
  rw [hr']
  exact hR

/-! How many chunks stay: the loops, and the call. -/
/-- how many were found, and which are taken, behind i chunks -/
def cS (K : Nat → Nat → Bool) (N : Nat) : Nat → Nat × (Nat → Bool)
  | 0 => (0, fun _ => false)
  | i + 1 => match fo (fun j => !(cS K N i).2 j && K i j) 0 N with
    | none => cS K N i
    | some j => ((cS K N i).1 + 1, fun t => t == j || (cS K N i).2 t)
theorem cS_le (K : Nat → Nat → Bool) (N : Nat) : ∀ i, (cS K N i).1 ≤ i := by
  intro i
  induction i with
  | zero => exact Nat.le_refl _
  | succ i ih =>
    show (match fo (fun j => !(cS K N i).2 j && K i j) 0 N with | none => cS K N i | some j => ((cS K N i).1 + 1, fun t => t == j || (cS K N i).2 t)).1 ≤ i + 1
    split
    · omega
    · show _ + 1 ≤ _; omega
def bI (b : Bool) : Int32 := if b = true then 1 else 0
theorem takesC {K : Nat → Nat → Bool} {N i : Nat} {T : Nat → Bool} {a44 a43 a38 a42 a37 : Nat → Int32} (hN : N ≤ 65) (hK : ∀ j, j < N → q_X0_isLike (nI j) (nI i) a43 a38 a42 a37 = some (if K i j = true then 1 else 0)) (hT : ∀ j, j < N → a44 j = bI (T j)) : q_X0_takes (nI i) (nI N) a44 a43 a38 a42 a37 = some (match fo (fun j => !T j && K i j) 0 N with | none => (0, a44) | some j => (1, upd a44 j 1)) := by
  obtain ⟨r, hr, g⟩ := loop_inv (F := fun k (x : Int32 × (Nat → Int32)) => q_X0_takes_L2 (nI i) (nI N) a43 a38 a42 a37 k x.1 x.2)
    (fun j x => x.1 = nI j ∧ x.2 = a44 ∧ fo (fun j => !T j && K i j) 0 N = fo (fun j => !T j && K i j) j (N - j))
    (fun r => (xlp (some r) (fun y1 => some ((0 : Int32), y1.2)) (fun y1 => some (y1.1, y1.2))) = some (match fo (fun j => !T j && K i j) 0 N with | none => (0, a44) | some j => (1, upd a44 j 1))) N
    (fun k x h => by
      obtain ⟨u, v⟩ := x
      obtain ⟨e1, e2, e3⟩ := h
      have e1 : u = nI N := e1
      have w2 : v = a44 := e2
      subst e1
      refine ⟨_, by show q_X0_takes_L2 _ _ _ _ _ _ (k + 1) _ _ = _; rw [q_X0_takes_L2, if_pos (nI_le (Nat.le_refl _) (by omega))], ?_⟩
      rw [e3, Nat.sub_self, w2]
      rfl)
    (fun k j x hj h => by
      obtain ⟨u, v⟩ := x
      obtain ⟨e1, e2, e3⟩ := h
      have e1 : u = nI j := e1
      have w2 : v = a44 := e2
      subst e1
      rw [w2]
      show (∃ r, q_X0_takes_L2 _ _ _ _ _ _ (k + 1) (nI j) a44 = some r ∧ _) ∨ ∃ s' : Int32 × (Nat → Int32), q_X0_takes_L2 _ _ _ _ _ _ (k + 1) (nI j) a44 = q_X0_takes_L2 _ _ _ _ _ _ k s'.1 s'.2 ∧ _
      rw [q_X0_takes_L2, if_neg (nI_ge hj (by omega)), if_neg (nI_ge (by omega) (by omega)), if_pos (xinI (by omega) (by omega)), nI_clamp (by omega), hT j hj]
      cases t : T j with
      | true =>
        rw [show bI true = 1 from rfl, ite10, nI_1]
        exact Or.inr ⟨(nI (j + 1), a44), rfl, rfl, rfl, by rw [e3, fo_F (by omega) (by simp [t]), Nat.sub_sub]⟩
      | false =>
        rw [show bI false = 0 from rfl, ite00, hK j hj, Option.bind_some]
        cases c : K i j with
        | false =>
          rw [if_neg (show ¬ false = true by decide), if_pos (show (0 : Int32) = 0 from rfl), nI_1]
          exact Or.inr ⟨(nI (j + 1), a44), rfl, rfl, rfl, by rw [e3, fo_F (by omega) (by simp [c]), Nat.sub_sub]⟩
        | true =>
          rw [if_pos (show true = true from rfl), if_neg (show ¬ (1 : Int32) = 0 by decide), if_pos (xinI (by omega) (by omega))]
          refine Or.inl ⟨_, rfl, ?_⟩
          rw [e3, fo_T (by omega) (by simp [t, c])]
          rfl)
    10000 0 (nI 0, a44) ⟨rfl, rfl, rfl⟩ (Nat.zero_le _) (by omega)
  unfold q_X0_takes
  have hr' : q_X0_takes_L2 (nI i) (nI N) a43 a38 a42 a37 10000 0 a44 = some r := hr
  rw [hr']
  exact g
theorem takesM {K : Nat → Nat → Bool} {N i : Nat} {T : Nat → Bool} {a61 a49 a51 a59 a60 : Nat → Int32} (hN : N ≤ 65) (hK : ∀ j, j < N → q_X12_areLike (nI i) (nI j) a59 a60 a49 a51 = some (if K i j = true then 1 else 0)) (hT : ∀ j, j < N → a61 j = bI (T j)) : ∃ q, q_X12_stays_L179 (nI N) (nI i) a49 a51 a59 a60 10000 0 0 a61 = some (match fo (fun j => !T j && K i j) 0 N with | none => (0, q, a61) | some j => (1, q, upd a61 j 1)) := by
  obtain ⟨r, hr, g⟩ := loop_inv (F := fun k (x : Int32 × Int32 × (Nat → Int32)) => q_X12_stays_L179 (nI N) (nI i) a49 a51 a59 a60 k x.1 x.2.1 x.2.2)
    (fun j x => x.2.1 = nI j ∧ ((x.1 = 0 ∧ x.2.2 = a61 ∧ fo (fun j => !T j && K i j) 0 N = fo (fun j => !T j && K i j) j (N - j)) ∨ (0 < j ∧ x.1 = 1 ∧ x.2.2 = upd a61 (j - 1) 1 ∧ fo (fun j => !T j && K i j) 0 N = some (j - 1))))
    (fun r => ∃ q, r = (match fo (fun j => !T j && K i j) 0 N with | none => (0, q, a61) | some j => (1, q, upd a61 j 1))) N
    (fun k x h => by
      obtain ⟨c, u, v⟩ := x
      obtain ⟨e1, e2⟩ := h
      have e1 : u = nI N := e1
      subst e1
      refine ⟨_, by show q_X12_stays_L179 _ _ _ _ _ _ (k + 1) _ _ _ = _; rw [q_X12_stays_L179, if_pos (nI_le (Nat.le_refl _) (by omega))], ?_⟩
      rcases e2 with ⟨g1, g2, g3⟩ | ⟨_, g1, g2, g3⟩
      · have g1 : c = 0 := g1
        have w2 : v = a61 := g2
        subst g1
        rw [g3, Nat.sub_self, w2]
        exact ⟨_, rfl⟩
      · have g1 : c = 1 := g1
        have g2 : v = _ := g2
        subst g1; subst g2
        rw [g3]
        exact ⟨_, rfl⟩)
    (fun k j x hj h => by
      obtain ⟨c, u, v⟩ := x
      obtain ⟨e1, e2⟩ := h
      have e1 : u = nI j := e1
      subst e1
      show (∃ r, q_X12_stays_L179 _ _ _ _ _ _ (k + 1) c (nI j) v = some r ∧ _) ∨ ∃ s' : Int32 × Int32 × (Nat → Int32), q_X12_stays_L179 _ _ _ _ _ _ (k + 1) c (nI j) v = q_X12_stays_L179 _ _ _ _ _ _ k s'.1 s'.2.1 s'.2.2 ∧ _
      rcases e2 with ⟨g1, g2, g3⟩ | ⟨_, g1, g2, g3⟩
      · have g1 : c = 0 := g1
        have w2 : v = a61 := g2
        subst g1
        rw [w2, q_X12_stays_L179, if_neg (nI_ge hj (by omega)), ite00, if_pos (xinI (by omega) (by omega)), nI_clamp (by omega), hT j hj]
        cases t : T j with
        | true =>
          rw [show bI true = 1 from rfl, ite10, if_pos rfl, nI_1]
          exact Or.inr ⟨(0, nI (j + 1), a61), rfl, rfl, Or.inl ⟨rfl, rfl, by rw [g3, fo_F (by omega) (by simp [t]), Nat.sub_sub]⟩⟩
        | false =>
          rw [show bI false = 0 from rfl, ite00, hK j hj, Option.bind_some]
          cases z : K i j with
          | false =>
            rw [if_neg (show ¬ false = true by decide), if_pos (show (0 : Int32) = 0 from rfl), if_pos (show (0 : Int32) = 0 from rfl), nI_1]
            exact Or.inr ⟨(0, nI (j + 1), a61), rfl, rfl, Or.inl ⟨rfl, rfl, by rw [g3, fo_F (by omega) (by simp [z]), Nat.sub_sub]⟩⟩
          | true =>
            rw [if_pos (show true = true from rfl), if_neg (show ¬ (1 : Int32) = 0 by decide), if_neg (show ¬ (1 : Int32) = 0 by decide), if_pos (xinI (by omega) (by omega)), nI_1]
            exact Or.inr ⟨(1, nI (j + 1), upd a61 j 1), rfl, rfl, Or.inr ⟨by omega, rfl, rfl, by rw [g3, fo_T (by omega) (by simp [t, z])]; rfl⟩⟩
      · have g1 : c = 1 := g1
        have g2 : v = _ := g2
        subst g1; subst g2
        refine Or.inl ⟨_, by rw [q_X12_stays_L179, if_neg (nI_ge hj (by omega)), ite10], ?_⟩
        rw [g3]
        exact ⟨_, rfl⟩)
    10000 0 (0, nI 0, a61) ⟨rfl, Or.inl ⟨rfl, rfl, rfl⟩⟩ (Nat.zero_le _) (by omega)
  obtain ⟨q, g⟩ := g
  exact ⟨q, by rw [← g]; exact hr⟩
theorem upd_bI {N j : Nat} {a : Nat → Int32} {T : Nat → Bool} (h : ∀ t, t < N → a t = bI (T t)) : ∀ t, t < N → upd a j 1 t = bI (t == j || T t) := by
  intro t ht
  by_cases e : t = j
  · subst e
    rw [upd_eq, beq_self_eq_true, Bool.true_or]
    rfl
  · rw [upd_ne e, h t ht, show (t == j) = false from beq_eq_false_iff_ne.mpr e, Bool.false_or]
theorem countC {K : Nat → Nat → Bool} {N n : Nat} {a44 a43 a38 a42 a37 : Nat → Int32} (hN : N ≤ 65) (hn : n ≤ 65) (hK : ∀ i j, i < n → j < N → q_X0_isLike (nI j) (nI i) a43 a38 a42 a37 = some (if K i j = true then 1 else 0)) : ∃ g, q_X0_countIn a44 (nI N) (nI n) a43 a38 a42 a37 = some (nI (cS K N n).1, g) := by
  obtain ⟨u, hu, hu2⟩ := loop_inv (F := fun k (x : Int32 × (Nat → Int32)) => q_X0_freeAll_L2 k x.1 x.2)
    (fun i x => x.1 = nI i ∧ ∀ t, t < i → x.2 t = 0) (fun r => ∀ t, t < 65 → r.2 t = 0) 65
    (fun k x h => by
      obtain ⟨c, v⟩ := x
      obtain ⟨e1, e2⟩ := h
      have e1 : c = nI 65 := e1
      subst e1
      exact ⟨_, by show q_X0_freeAll_L2 (k + 1) _ _ = _; rw [q_X0_freeAll_L2, if_pos (nI_le (Nat.le_refl _) (by omega))], e2⟩)
    (fun k i x hi h => by
      obtain ⟨c, v⟩ := x
      obtain ⟨e1, e2⟩ := h
      have e1 : c = nI i := e1
      subst e1
      refine Or.inr ⟨(nI (i + 1), upd v i 0), ?_, rfl, ?_⟩
      · show q_X0_freeAll_L2 (k + 1) (nI i) v = q_X0_freeAll_L2 k (nI (i + 1)) _
        rw [q_X0_freeAll_L2, if_neg (nI_ge hi (by omega)), if_pos (xinI hi (by omega)), nI_clamp (by omega), nI_1]
        rfl
      · intro t ht
        show upd v i 0 t = 0
        by_cases e : t = i
        · subst e; exact upd_eq
        · rw [upd_ne e]; exact e2 t (by omega))
    10000 0 (nI 0, a44) ⟨rfl, fun t ht => absurd ht (Nat.not_lt_zero t)⟩ (Nat.zero_le _) (by omega)
  obtain ⟨r, hr, g⟩ := loop_inv (F := fun k (x : Int32 × Int32 × (Nat → Int32)) => q_X0_countIn_L8 (nI N) (nI n) a43 a38 a42 a37 k x.1 x.2.1 x.2.2)
    (fun i x => x.1 = nI (cS K N i).1 ∧ x.2.1 = nI i ∧ ∀ t, t < N → x.2.2 t = bI ((cS K N i).2 t))
    (fun r => r.1 = nI (cS K N n).1) n
    (fun k x h => by
      obtain ⟨c, l, v⟩ := x
      obtain ⟨e1, e2, e3⟩ := h
      have e2 : l = nI n := e2
      subst e2
      exact ⟨_, by show q_X0_countIn_L8 _ _ _ _ _ _ (k + 1) _ _ _ = _; rw [q_X0_countIn_L8, if_pos (nI_le (Nat.le_refl _) (by omega))], e1⟩)
    (fun k i x hi h => by
      obtain ⟨c, l, v⟩ := x
      obtain ⟨e1, e2, e3⟩ := h
      have e1 : c = nI (cS K N i).1 := e1
      have e2 : l = nI i := e2
      subst e1; subst e2
      have e3 : ∀ t, t < N → v t = bI ((cS K N i).2 t) := e3
      show _ ∨ ∃ s' : Int32 × Int32 × (Nat → Int32), q_X0_countIn_L8 _ _ _ _ _ _ (k + 1) (nI _) (nI i) v = q_X0_countIn_L8 _ _ _ _ _ _ k s'.1 s'.2.1 s'.2.2 ∧ _
      rw [q_X0_countIn_L8, if_neg (nI_ge hi (by omega)), takesC (T := (cS K N i).2) hN (fun j hj => hK i j hi hj) e3, Option.bind_some, nI_1]
      have es : cS K N (i + 1) = match fo (fun j => !(cS K N i).2 j && K i j) 0 N with | none => cS K N i | some j => ((cS K N i).1 + 1, fun t => t == j || (cS K N i).2 t) := rfl
      cases hf : fo (fun j => !(cS K N i).2 j && K i j) 0 N with
      | none =>
        rw [hf] at es
        have es : cS K N (i + 1) = cS K N i := es
        exact Or.inr ⟨(nI (cS K N i).1 + (if (0 : Int32) = 0 then 0 else 1), nI (i + 1), v), rfl, by rw [es]; exact Int32.add_zero _, rfl, by rw [es]; exact e3⟩
      | some j =>
        rw [hf] at es
        have es : cS K N (i + 1) = ((cS K N i).1 + 1, fun t => t == j || (cS K N i).2 t) := es
        exact Or.inr ⟨(nI (cS K N i).1 + (if (1 : Int32) = 0 then 0 else 1), nI (i + 1), upd v j 1), rfl, by rw [es, if_neg (by decide)]; exact nI_1 _, rfl, by rw [es]; exact upd_bI e3⟩)
    10000 0 (nI 0, nI 0, u.2) ⟨rfl, rfl, fun t ht => by rw [show bI ((cS K N 0).2 t) = 0 from rfl]; exact hu2 t (by omega)⟩ (Nat.zero_le _) (by omega)
  refine ⟨r.2.2, ?_⟩
  unfold q_X0_countIn q_X0_freeAll
  have hu' : q_X0_freeAll_L2 10000 0 a44 = some u := hu
  have hr' : q_X0_countIn_L8 (nI N) (nI n) a43 a38 a42 a37 10000 0 0 u.2 = some r := hr
  rw [hu', Option.bind_some, Option.bind_some, hr', Option.bind_some, g]
theorem countM {K : Nat → Nat → Bool} {N n : Nat} {a61 a49 a51 a59 a60 : Nat → Int32} (hN : N ≤ 65) (hn : n ≤ 65) (h0 : ∀ t, t < N → a61 t = 0) (hK : ∀ i j, i < n → j < N → q_X12_areLike (nI i) (nI j) a59 a60 a49 a51 = some (if K i j = true then 1 else 0)) : ∃ r : Int32 × Int32 × (Nat → Int32), q_X12_stays_L166 (nI n) (nI N) a49 a51 a59 a60 10000 0 0 a61 = some r ∧ r.1 = nI (cS K N n).1 := by
  obtain ⟨r, hr, g⟩ := loop_inv (F := fun k (x : Int32 × Int32 × (Nat → Int32)) => q_X12_stays_L166 (nI n) (nI N) a49 a51 a59 a60 k x.1 x.2.1 x.2.2)
    (fun i x => x.1 = nI (cS K N i).1 ∧ x.2.1 = nI i ∧ ∀ t, t < N → x.2.2 t = bI ((cS K N i).2 t))
    (fun r => r.1 = nI (cS K N n).1) n
    (fun k x h => by
      obtain ⟨c, l, v⟩ := x
      obtain ⟨e1, e2, e3⟩ := h
      have e2 : l = nI n := e2
      subst e2
      exact ⟨_, by show q_X12_stays_L166 _ _ _ _ _ _ (k + 1) _ _ _ = _; rw [q_X12_stays_L166, if_pos (nI_le (Nat.le_refl _) (by omega))], e1⟩)
    (fun k i x hi h => by
      obtain ⟨c, l, v⟩ := x
      obtain ⟨e1, e2, e3⟩ := h
      have e1 : c = nI (cS K N i).1 := e1
      have e2 : l = nI i := e2
      subst e1; subst e2
      have e3 : ∀ t, t < N → v t = bI ((cS K N i).2 t) := e3
      obtain ⟨q, hq⟩ := takesM (T := (cS K N i).2) hN (fun j hj => hK i j hi hj) e3
      show _ ∨ ∃ s' : Int32 × Int32 × (Nat → Int32), q_X12_stays_L166 _ _ _ _ _ _ (k + 1) (nI _) (nI i) v = q_X12_stays_L166 _ _ _ _ _ _ k s'.1 s'.2.1 s'.2.2 ∧ _
      rw [q_X12_stays_L166, if_neg (nI_ge hi (by omega)), hq, Option.bind_some, nI_1]
      have es : cS K N (i + 1) = match fo (fun j => !(cS K N i).2 j && K i j) 0 N with | none => cS K N i | some j => ((cS K N i).1 + 1, fun t => t == j || (cS K N i).2 t) := rfl
      cases hf : fo (fun j => !(cS K N i).2 j && K i j) 0 N with
      | none =>
        rw [hf] at es
        have es : cS K N (i + 1) = cS K N i := es
        exact Or.inr ⟨(nI (cS K N i).1 + (if (0 : Int32) = 0 then 0 else 1), nI (i + 1), v), rfl, by rw [es]; exact Int32.add_zero _, rfl, by rw [es]; exact e3⟩
      | some j =>
        rw [hf] at es
        have es : cS K N (i + 1) = ((cS K N i).1 + 1, fun t => t == j || (cS K N i).2 t) := es
        exact Or.inr ⟨(nI (cS K N i).1 + (if (1 : Int32) = 0 then 0 else 1), nI (i + 1), upd v j 1), rfl, by rw [es, if_neg (by decide)]; exact nI_1 _, rfl, by rw [es]; exact upd_bI e3⟩)
    10000 0 (nI 0, nI 0, a61) ⟨rfl, rfl, fun t ht => by rw [show bI ((cS K N 0).2 t) = 0 from rfl]; exact h0 t ht⟩ (Nat.zero_le _) (by omega)
  exact ⟨r, hr, g⟩
theorem zeroM {a61 : Nat → Int32} : ∃ r : Int32 × (Nat → Int32), q_X12_stays_L139 10000 0 a61 = some r ∧ ∀ t, t < 80 → r.2 t = 0 := by
  obtain ⟨u, hu, hu2⟩ := loop_inv (F := fun k (x : Int32 × (Nat → Int32)) => q_X12_stays_L139 k x.1 x.2)
    (fun i x => x.1 = nI i ∧ ∀ t, t < i → x.2 t = 0) (fun r => ∀ t, t < 80 → r.2 t = 0) 80
    (fun k x h => by
      obtain ⟨c, v⟩ := x
      obtain ⟨e1, e2⟩ := h
      have e1 : c = nI 80 := e1
      subst e1
      exact ⟨_, by show q_X12_stays_L139 (k + 1) _ _ = _; rw [q_X12_stays_L139, if_pos (show (80 : Int32) ≤ nI 80 by decide)], e2⟩)
    (fun k i x hi h => by
      obtain ⟨c, v⟩ := x
      obtain ⟨e1, e2⟩ := h
      have e1 : c = nI i := e1
      subst e1
      refine Or.inr ⟨(nI (i + 1), upd v i 0), ?_, rfl, ?_⟩
      · show q_X12_stays_L139 (k + 1) (nI i) v = q_X12_stays_L139 k (nI (i + 1)) _
        rw [q_X12_stays_L139, if_neg (show ¬ (80 : Int32) ≤ nI i from nI_ge (b := 80) hi (by decide)), if_pos (xinI hi (by omega)), nI_clamp (by omega), nI_1]
      · intro t ht
        show upd v i 0 t = 0
        by_cases e : t = i
        · subst e; exact upd_eq
        · rw [upd_ne e]; exact e2 t (by omega))
    10000 0 (nI 0, a61) ⟨rfl, fun t ht => absurd ht (Nat.not_lt_zero t)⟩ (Nat.zero_le _) (by omega)
  exact ⟨u, hu, hu2⟩
theorem longM {n p : Nat} {v : Int32} {a49 a51 : Nat → Int32} (hn : n ≤ 64) (hp : p ≤ n) : ∃ r : Int32 × (Nat → Int32), q_X12_stays_L60 (nI p) v (nI (n + 1)) a49 10000 0 a51 = some r ∧ ∀ t, t < n + 1 → r.2 t = if t = p then v else if t < p then a49 t else a49 (t - 1) := by
  obtain ⟨u, hu, hu2⟩ := loop_inv (F := fun k (x : Int32 × (Nat → Int32)) => q_X12_stays_L60 (nI p) v (nI (n + 1)) a49 k x.1 x.2)
    (fun i x => x.1 = nI i ∧ ∀ t, t < i → x.2 t = if t = p then v else if t < p then a49 t else a49 (t - 1)) (fun r => ∀ t, t < n + 1 → r.2 t = if t = p then v else if t < p then a49 t else a49 (t - 1)) (n + 1)
    (fun k x h => by
      obtain ⟨c, v⟩ := x
      obtain ⟨e1, e2⟩ := h
      have e1 : c = nI (n + 1) := e1
      subst e1
      exact ⟨_, by show q_X12_stays_L60 _ _ _ _ (k + 1) _ _ = _; rw [q_X12_stays_L60, if_pos (nI_le (Nat.le_refl _) (by omega))], e2⟩)
    (fun k i x hi h => by
      obtain ⟨c, w⟩ := x
      obtain ⟨e1, e2⟩ := h
      have e1 : c = nI i := e1
      subst e1
      have e2 : ∀ t, t < i → w t = if t = p then v else if t < p then a49 t else a49 (t - 1) := e2
      refine Or.inr ⟨(nI (i + 1), upd w i (if i = p then v else if i < p then a49 i else a49 (i - 1))), ?_, rfl, ?_⟩
      · show q_X12_stays_L60 _ _ _ _ (k + 1) (nI i) w = q_X12_stays_L60 _ _ _ _ k (nI (i + 1)) _
        rw [q_X12_stays_L60, if_neg (nI_ge hi (by omega))]
        by_cases c1 : i = p
        · subst c1
          rw [if_pos (nI_le (Nat.le_refl _) (by omega)), if_neg (show ¬ ¬ nI i = nI i from fun h => h rfl), if_pos (xinI (by omega) (by omega)), nI_clamp (by omega), nI_1, if_pos rfl]
        · by_cases c2 : i < p
          · rw [if_neg (nI_ge c2 (by omega)), if_pos (xinI (by omega) (by omega)), if_pos (xinI (by omega) (by omega)), nI_clamp (by omega), nI_1, if_neg c1, if_pos c2]
          · rw [if_pos (nI_le (by omega) (by omega)), if_pos (ne_of_nI c1 (by omega) (by omega)), nI_pred' (by omega), if_pos (xinI (by omega) (by omega)), if_pos (xinI (by omega) (by omega)), nI_clamp (by omega), nI_clamp (by omega), nI_1, if_neg c1, if_neg c2]
      · intro t ht
        show upd w i _ t = _
        by_cases e : t = i
        · subst e; rw [upd_eq]
        · rw [upd_ne e]; exact e2 t (by omega))
    10000 0 (nI 0, a51) ⟨rfl, fun t ht => absurd ht (Nat.not_lt_zero t)⟩ (Nat.zero_le _) (by omega)
  exact ⟨u, hu, hu2⟩
theorem M_38 : MS_38 := by
  intro S l4 c1_1 c33_1 a34 a2 c35_3 c36_1 a37 a38 c40_3 c41_1 a42 a43 a44 a66 c48_17 c48_19 a49 a51 a59 a60 a61 c3_1 c3_2 c4_0 a5 a6 c48_20 a52 c8_0 c8_1 c8_2 c8_3 c8_4 c8_5 c48_24 c48_25 c48_26 c48_27 c48_28 c7_0 c7_1 c7_2 c7_3 c7_4 c7_5 a10 a11 a53 c17_1 a18 c48_21 a57 c23_4 c24_0 a25 a26 c48_22 a58 a22 x1 x2 x3 x4 x5 hB hP hK h7 hS hD hW hC
  obtain ⟨n, B, hn, rfl, rfl, hB⟩ := hB
  unfold q_case38
  generalize S.2 (l4 + (1 : Int32)).toNatClampNeg = p1
  generalize S.2 (l4 + (2 : Int32)).toNatClampNeg = p2
  generalize S.2 (l4 + (3 : Int32)).toNatClampNeg = p3
  generalize S.2 (l4 + (4 : Int32)).toNatClampNeg = p4
  have hn' : n < 2147483647 := by omega
  rcases cls2 p1 (a := 1) (b := 8) (by omega) with ⟨w, h1, h8, rfl⟩ | h
  · rcases cls2 p2 (a := 2) (b := 64) (by omega) with ⟨st, h2, h64, rfl⟩ | h2
    · rcases cls p4 (n := 256) (by omega) with ⟨v, hv, rfl⟩ | h4
      · rcases cls p3 (n := n + 1) (by omega) with ⟨p, hp, rfl⟩ | h3
        · obtain ⟨u, u1, u2⟩ := copyC (m0 := 65) (m1 := 64) (f := a34) (g := a2) (show n ≤ 65 by omega) hn (by omega) (by omega)
          obtain ⟨g, g1, g2⟩ := openC (v := nI v) (f := u) (m := 65) (show p ≤ n by omega) (by omega) (by decide) (by omega)
          obtain ⟨r, r1, r2⟩ := longM (v := nI v) (a49 := a49) (a51 := a51) hn (show p ≤ n by omega)
          have hC : ∀ k, k < n + 1 → (if k = p then v else if k < p then B k else B (k - 1)) < 256 ∧ g k = nI (if k = p then v else if k < p then B k else B (k - 1)) ∧ r.2 k = nI (if k = p then v else if k < p then B k else B (k - 1)) := by
            intro k hk
            rw [g2, r2 k hk]
            by_cases c1 : k = p
            · simp only [if_pos c1]; exact ⟨hv, trivial, trivial⟩
            · simp only [if_neg c1]
              by_cases c2 : k < p
              · obtain ⟨b1, b2, b3⟩ := hB k (by omega)
                simp only [if_pos c2]
                refine ⟨b1, ?_, b3⟩
                rw [if_neg (by omega), u2, if_pos (by omega), b2]
              · obtain ⟨b1, b2, b3⟩ := hB (k - 1) (by omega)
                simp only [if_neg c2]
                refine ⟨b1, ?_, b3⟩
                rw [if_pos (by omega), u2, if_pos (by omega), b2]
          obtain ⟨C, hCd⟩ : ∃ C : Nat → Nat, C = fun k => if k = p then v else if k < p then B k else B (k - 1) := ⟨_, rfl⟩
          have hC : ∀ k, k < n + 1 → C k < 256 ∧ g k = nI (C k) ∧ r.2 k = nI (C k) := by rw [hCd]; exact hC
          obtain ⟨o1g, e, e1, eg, e2⟩ := cutC (m := 64) (h := a37) (ae := a38) h1 h8 h2 h64 hn (by omega) (by omega) (fun j hj => ⟨(hB j hj).1, (hB j hj).2.1⟩)
          obtain ⟨o2g, e', e3, eg', e4⟩ := cutC (m := 65) (h := a42) (ae := a43) h1 h8 h2 h64 (show n + 1 ≤ 65 by omega) (by omega) (by omega) (fun j hj => ⟨(hC j hj).1, (hC j hj).2.1⟩)
          obtain ⟨y, y1, y2⟩ := cutM0 (a59 := a59) (a60 := a60) (a51 := r.2) (cx := nI (n + 1)) h1 h8 h2 h64 hn (fun j hj => ⟨(hB j hj).1, (hB j hj).2.2⟩)
          obtain ⟨y', y3, y4⟩ := cutM1 (a59 := y) (a60 := a60) (a49 := a49) (cx := nI n) h1 h8 h2 h64 (show n + 1 ≤ 65 by omega) (fun j hj => ⟨(hC j hj).1, (hC j hj).2.2⟩)
          obtain ⟨z, z1, z2⟩ := zeroM (a61 := a61)
          have hl := ct_len B w st n n
          have hl' := ct_len C w st (n + 1) (n + 1)
          obtain ⟨o, o1⟩ := countC (a44 := a44) (K := lk B C (ct B w st n n) (ct C w st (n + 1) (n + 1))) (N := (ct C w st (n + 1) (n + 1)).length) (n := (ct B w st n n).length) (by omega) (by omega) (fun i j hi hj => isLikeC e2 e4 (by omega) (by omega) (ct_ord B w st n n) (ct_ord C w st (n + 1) (n + 1)) hn (show n + 1 ≤ 65 by omega) (fun k hk => ⟨(hB k hk).1, eg k hk⟩) (fun k hk => ⟨(hC k hk).1, eg' k hk⟩) hi hj)
          obtain ⟨q, q1, q2⟩ := countM (a61 := z.2) (K := lk B C (ct B w st n n) (ct C w st (n + 1) (n + 1))) (N := (ct C w st (n + 1) (n + 1)).length) (n := (ct B w st n n).length) (by omega) (by omega) (fun t ht => z2 t (by omega)) (fun i j hi hj => areLikeM y2 y4 (by omega) (by omega) (ct_ord B w st n n) (ct_ord C w st (n + 1) (n + 1)) hn (show n + 1 ≤ 65 by omega) (fun k hk => ⟨(hB k hk).1, (hB k hk).2.2⟩) (fun k hk => ⟨(hC k hk).1, (hC k hk).2.2⟩) hi hj)
          simp only [x1, x2, x3, x4, if_true, q_L_stays, q_X11_stays, winT h1 h8, stpT h2 h64, rbT hv, poeT hp hn', xbnd, u1, Option.bind_some, g1, e1, e3, o1, q_X12_stays, t_X12_areSizes, iwT h1 h8, isT h2 h64, ite1e, ibT hv, ieT hp hn', ite10, nI_1, r1, y1, y3, z1, q1, q2, t_X12_tells, t_X12_thrown, ite00, c0, updL_eq, lgs]
          exact ⟨_, rfl⟩
        · simp only [x1, x2, x3, x4, if_true, q_L_stays, q_X11_stays, winT h1 h8, stpT h2 h64, rbT hv, poeF h3 hn', xbnd, Option.bind_some, q_X12_stays, t_X12_areSizes, iwT h1 h8, isT h2 h64, ite1e, ibT hv, ieF h3 hn', ite10, ite00, t_X12_fails, t_X12_thrown]
          exact ⟨_, rfl⟩
      · simp only [x1, x2, x3, x4, if_true, q_L_stays, q_X11_stays, winT h1 h8, stpT h2 h64, rbF h4, xbnd, Option.bind_some, q_X12_stays, t_X12_areSizes, iwT h1 h8, isT h2 h64, ite1e, ibF h4, ite10, ite00, t_X12_fails, t_X12_thrown]
        exact ⟨_, rfl⟩
    · simp only [x1, x2, x3, x4, if_true, q_L_stays, q_X11_stays, winT h1 h8, stpF h2, xbnd, Option.bind_some, q_X12_stays, t_X12_areSizes, iwT h1 h8, isF h2, ite1e, ite0e, ite10, t_X12_fails, t_X12_thrown]
      exact ⟨_, rfl⟩
  · simp only [x1, x2, x3, x4, if_true, q_L_stays, q_X11_stays, winF h, xbnd, Option.bind_some, q_X12_stays, t_X12_areSizes, iwF h, ite0e, ite10, t_X12_fails, t_X12_thrown]
    exact ⟨_, rfl⟩

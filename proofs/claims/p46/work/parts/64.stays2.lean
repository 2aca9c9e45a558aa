/-! How many chunks stay: the loops, and the call. -/
/-- how many were found, and which are taken, behind i chunks -/
def cS (K : Nat → Nat → Bool) (N : Nat) : Nat → Nat × (Nat → Bool)
  | 0 => (0, fun _ => false)
  | i + 1 => match fo (fun j => !(cS K N i).2 j && K i j) 0 N with
    | none => cS K N i
    | some j => ((cS K N i).1 + 1, fun t => t == j || (cS K N i).2 t)
theorem cS_le (K : Nat → Nat → Bool) (N : Nat) : ∀ i, (cS K N i).1 ≤ i := by
  intro i
  induction i with
  | zero => exact Nat.le_refl _
  | succ i ih =>
    show (match fo (fun j => !(cS K N i).2 j && K i j) 0 N with | none => cS K N i | some j => ((cS K N i).1 + 1, fun t => t == j || (cS K N i).2 t)).1 ≤ i + 1
    split
    · omega
    · show _ + 1 ≤ _; omega
def bI (b : Bool) : Int32 := if b = true then 1 else 0
theorem takesC {K : Nat → Nat → Bool} {N i : Nat} {T : Nat → Bool} {a44 a43 a38 a42 a37 : Nat → Int32} (hN : N ≤ 65) (hK : ∀ j, j < N → q_X0_isLike (nI j) (nI i) a43 a38 a42 a37 = some (if K i j = true then 1 else 0)) (hT : ∀ j, j < N → a44 j = bI (T j)) : q_X0_takes (nI i) (nI N) a44 a43 a38 a42 a37 = some (match fo (fun j => !T j && K i j) 0 N with | none => (0, a44) | some j => (1, upd a44 j 1)) := by
  obtain ⟨r, hr, g⟩ := loop_inv (F := fun k (x : Int32 × (Nat → Int32)) => q_X0_takes_L2 (nI i) (nI N) a43 a38 a42 a37 k x.1 x.2)
    (fun j x => x.1 = nI j ∧ x.2 = a44 ∧ fo (fun j => !T j && K i j) 0 N = fo (fun j => !T j && K i j) j (N - j))
    (fun r => (xlp (some r) (fun y1 => some ((0 : Int32), y1.2)) (fun y1 => some (y1.1, y1.2))) = some (match fo (fun j => !T j && K i j) 0 N with | none => (0, a44) | some j => (1, upd a44 j 1))) N
    (fun k x h => by
      obtain ⟨u, v⟩ := x
      obtain ⟨e1, e2, e3⟩ := h
      have e1 : u = nI N := e1
      have w2 : v = a44 := e2
      subst e1
      refine ⟨_, by show q_X0_takes_L2 _ _ _ _ _ _ (k + 1) _ _ = _; rw [q_X0_takes_L2, if_pos (nI_le (Nat.le_refl _) (by omega))], ?_⟩
      rw [e3, Nat.sub_self, w2]
      rfl)
    (fun k j x hj h => by
      obtain ⟨u, v⟩ := x
      obtain ⟨e1, e2, e3⟩ := h
      have e1 : u = nI j := e1
      have w2 : v = a44 := e2
      subst e1
      rw [w2]
      show (∃ r, q_X0_takes_L2 _ _ _ _ _ _ (k + 1) (nI j) a44 = some r ∧ _) ∨ ∃ s' : Int32 × (Nat → Int32), q_X0_takes_L2 _ _ _ _ _ _ (k + 1) (nI j) a44 = q_X0_takes_L2 _ _ _ _ _ _ k s'.1 s'.2 ∧ _
      rw [q_X0_takes_L2, if_neg (nI_ge hj (by omega)), if_neg (nI_ge (by omega) (by omega)), if_pos (xinI (by omega) (by omega)), nI_clamp (by omega), hT j hj]
      cases t : T j with
      | true =>
        rw [show bI true = 1 from rfl, ite10, nI_1]
        exact Or.inr ⟨(nI (j + 1), a44), rfl, rfl, rfl, by rw [e3, fo_F (by omega) (by simp [t]), Nat.sub_sub]⟩
      | false =>
        rw [show bI false = 0 from rfl, ite00, hK j hj, Option.bind_some]
        cases c : K i j with
        | false =>
          rw [if_neg (show ¬ false = true by decide), if_pos (show (0 : Int32) = 0 from rfl), nI_1]
          exact Or.inr ⟨(nI (j + 1), a44), rfl, rfl, rfl, by rw [e3, fo_F (by omega) (by simp [c]), Nat.sub_sub]⟩
        | true =>
          rw [if_pos (show true = true from rfl), if_neg (show ¬ (1 : Int32) = 0 by decide), if_pos (xinI (by omega) (by omega))]
          refine Or.inl ⟨_, rfl, ?_⟩
          rw [e3, fo_T (by omega) (by simp [t, c])]
          rfl)
    10000 0 (nI 0, a44) ⟨rfl, rfl, rfl⟩ (Nat.zero_le _) (by omega)
  unfold q_X0_takes
  have hr' : q_X0_takes_L2 (nI i) (nI N) a43 a38 a42 a37 10000 0 a44 = some r := hr
  rw [hr']
  exact g
theorem upd_bI {N j : Nat} {a : Nat → Int32} {T : Nat → Bool} (h : ∀ t, t < N → a t = bI (T t)) : ∀ t, t < N → upd a j 1 t = bI (t == j || T t) := by
  intro t ht
  by_cases e : t = j
  · subst e
    rw [upd_eq, beq_self_eq_true, Bool.true_or]
    rfl
  · rw [upd_ne e, h t ht, show (t == j) = false from beq_eq_false_iff_ne.mpr e, Bool.false_or]
theorem countC {K : Nat → Nat → Bool} {N n : Nat} {a44 a43 a38 a42 a37 : Nat → Int32} (hN : N ≤ 65) (hn : n ≤ 65) (hK : ∀ i j, i < n → j < N → q_X0_isLike (nI j) (nI i) a43 a38 a42 a37 = some (if K i j = true then 1 else 0)) : ∃ g, q_X0_countIn a44 (nI N) (nI n) a43 a38 a42 a37 = some (nI (cS K N n).1, g) := by
  obtain ⟨u, hu, hu2⟩ := loop_inv (F := fun k (x : Int32 × (Nat → Int32)) => q_X0_freeAll_L2 k x.1 x.2)
    (fun i x => x.1 = nI i ∧ ∀ t, t < i → x.2 t = 0) (fun r => ∀ t, t < 65 → r.2 t = 0) 65
    (fun k x h => by
      obtain ⟨c, v⟩ := x
      obtain ⟨e1, e2⟩ := h
      have e1 : c = nI 65 := e1
      subst e1
      exact ⟨_, by show q_X0_freeAll_L2 (k + 1) _ _ = _; rw [q_X0_freeAll_L2, if_pos (nI_le (Nat.le_refl _) (by omega))], e2⟩)
    (fun k i x hi h => by
      obtain ⟨c, v⟩ := x
      obtain ⟨e1, e2⟩ := h
      have e1 : c = nI i := e1
      subst e1
      refine Or.inr ⟨(nI (i + 1), upd v i 0), ?_, rfl, ?_⟩
      · show q_X0_freeAll_L2 (k + 1) (nI i) v = q_X0_freeAll_L2 k (nI (i + 1)) _
        rw [q_X0_freeAll_L2, if_neg (nI_ge hi (by omega)), if_pos (xinI hi (by omega)), nI_clamp (by omega), nI_1]
        rfl
      · intro t ht
        show upd v i 0 t = 0
        by_cases e : t = i
        · subst e; exact upd_eq
        · rw [upd_ne e]; exact e2 t (by omega))
    10000 0 (nI 0, a44) ⟨rfl, fun t ht => absurd ht (Nat.not_lt_zero t)⟩ (Nat.zero_le _) (by omega)
  obtain ⟨r, hr, g⟩ := loop_inv (F := fun k (x : Int32 × Int32 × (Nat → Int32)) => q_X0_countIn_L8 (nI N) (nI n) a43 a38 a42 a37 k x.1 x.2.1 x.2.2)
    (fun i x => x.1 = nI (cS K N i).1 ∧ x.2.1 = nI i ∧ ∀ t, t < N → x.2.2 t = bI ((cS K N i).2 t))
    (fun r => r.1 = nI (cS K N n).1) n
    (fun k x h => by
      obtain ⟨c, l, v⟩ := x
      obtain ⟨e1, e2, e3⟩ := h
      have e2 : l = nI n := e2
      subst e2
      exact ⟨_, by show q_X0_countIn_L8 _ _ _ _ _ _ (k + 1) _ _ _ = _; rw [q_X0_countIn_L8, if_pos (nI_le (Nat.le_refl _) (by omega))], e1⟩)
    (fun k i x hi h => by
      obtain ⟨c, l, v⟩ := x
      obtain ⟨e1, e2, e3⟩ := h
      have e1 : c = nI (cS K N i).1 := e1
      have e2 : l = nI i := e2
      subst e1; subst e2
      have e3 : ∀ t, t < N → v t = bI ((cS K N i).2 t) := e3
      show _ ∨ ∃ s' : Int32 × Int32 × (Nat → Int32), q_X0_countIn_L8 _ _ _ _ _ _ (k + 1) (nI _) (nI i) v = q_X0_countIn_L8 _ _ _ _ _ _ k s'.1 s'.2.1 s'.2.2 ∧ _
      rw [q_X0_countIn_L8, if_neg (nI_ge hi (by omega)), takesC (T := (cS K N i).2) hN (fun j hj => hK i j hi hj) e3, Option.bind_some, nI_1]
      have es : cS K N (i + 1) = match fo (fun j => !(cS K N i).2 j && K i j) 0 N with | none => cS K N i | some j => ((cS K N i).1 + 1, fun t => t == j || (cS K N i).2 t) := rfl
      cases hf : fo (fun j => !(cS K N i).2 j && K i j) 0 N with
      | none =>
        rw [hf] at es
        have es : cS K N (i + 1) = cS K N i := es
        exact Or.inr ⟨(nI (cS K N i).1 + (if (0 : Int32) = 0 then 0 else 1), nI (i + 1), v), rfl, by rw [es]; exact Int32.add_zero _, rfl, by rw [es]; exact e3⟩
      | some j =>
        rw [hf] at es
        have es : cS K N (i + 1) = ((cS K N i).1 + 1, fun t => t == j || (cS K N i).2 t) := es
        exact Or.inr ⟨(nI (cS K N i).1 + (if (1 : Int32) = 0 then 0 else 1), nI (i + 1), upd v j 1), rfl, by rw [es, if_neg (by decide)]; exact nI_1 _, rfl, by rw [es]; exact upd_bI e3⟩)
    10000 0 (nI 0, nI 0, u.2) ⟨rfl, rfl, fun t ht => by rw [show bI ((cS K N 0).2 t) = 0 from rfl]; exact hu2 t (by omega)⟩ (Nat.zero_le _) (by omega)
  refine ⟨r.2.2, ?_⟩
  unfold q_X0_countIn q_X0_freeAll
  have hu' : q_X0_freeAll_L2 10000 0 a44 = some u := hu
  have hr' : q_X0_countIn_L8 (nI N) (nI n) a43 a38 a42 a37 10000 0 0 u.2 = some r := hr
  rw [hu', Option.bind_some, Option.bind_some, hr', Option.bind_some, g]

/-! How many chunks stay. -/
/-- the first one from i on, of r many, for which P holds -/
def fo (P : Nat → Bool) : Nat → Nat → Option Nat
  | _, 0 => none
  | i, r + 1 => if P i = true then some i else fo P (i + 1) r
theorem fo_T {P : Nat → Bool} {i r : Nat} (h : 0 < r) (hp : P i = true) : fo P i r = some i := by
  obtain ⟨k, rfl⟩ : ∃ k, r = k + 1 := ⟨r - 1, by omega⟩
  show (if P i = true then some i else fo P (i + 1) k) = _
  rw [if_pos hp]
theorem fo_F {P : Nat → Bool} {i r : Nat} (h : 0 < r) (hp : ¬ P i = true) : fo P i r = fo P (i + 1) (r - 1) := by
  obtain ⟨k, rfl⟩ : ∃ k, r = k + 1 := ⟨r - 1, by omega⟩
  show (if P i = true then some i else fo P (i + 1) k) = _
  rw [if_neg hp]
  rfl
theorem fo_lt {P : Nat → Bool} : ∀ (r i j : Nat), fo P i r = some j → j < i + r ∧ i ≤ j ∧ P j = true := by
  intro r
  induction r with
  | zero => intro i j h; cases h
  | succ r ih =>
    intro i j h
    by_cases hp : P i = true
    · rw [fo_T (by omega) hp] at h
      cases h
      exact ⟨by omega, Nat.le_refl _, hp⟩
    · rw [fo_F (by omega) hp] at h
      obtain ⟨a, b, c⟩ := ih _ _ h
      exact ⟨by omega, by omega, c⟩
theorem fo_congr {P Q : Nat → Bool} : ∀ (r i : Nat), (∀ j, i ≤ j → j < i + r → P j = Q j) → fo P i r = fo Q i r := by
  intro r
  induction r with
  | zero => intro i _; rfl
  | succ r ih =>
    intro i h
    show (if P i = true then some i else fo P (i + 1) r) = (if Q i = true then some i else fo Q (i + 1) r)
    rw [h i (Nat.le_refl _) (by omega), ih (i + 1) (fun j h1 h2 => h j (by omega) (by omega))]
def cst (l : List Nat) (j : Nat) : Nat := if j = 0 then 0 else l.getD (j - 1) 0
theorem getD_app {l : List Nat} {x j : Nat} (h : j < l.length) : (l ++ [x]).getD j 0 = l.getD j 0 := by
  simp [List.getD_eq_getElem?_getD, List.getElem?_append_left h]
theorem getD_end {l : List Nat} {x : Nat} : (l ++ [x]).getD l.length 0 = x := by
  simp [List.getD_eq_getElem?_getD]
theorem ct_ord (B : Nat → Nat) (w st n : Nat) : ∀ i j, j < (ct B w st n i).length → cst (ct B w st n i) j < (ct B w st n i).getD j 0 ∧ (ct B w st n i).getD j 0 ≤ i := by
  intro i
  induction i with
  | zero => intro j h; exact absurd h (Nat.not_lt_zero j)
  | succ i ih =>
    intro j h
    have e : ct B w st n (i + 1) = if cuB B w st n i = true then ct B w st n i ++ [i + 1] else ct B w st n i := rfl
    rw [e] at h ⊢
    by_cases c : cuB B w st n i = true
    · rw [if_pos c] at h ⊢
      rw [List.length_append] at h
      have h : j < (ct B w st n i).length + 1 := h
      by_cases hj : j < (ct B w st n i).length
      · obtain ⟨a, b⟩ := ih j hj
        have e2 : cst (ct B w st n i ++ [i + 1]) j = cst (ct B w st n i) j := by
          unfold cst
          by_cases z : j = 0
          · rw [if_pos z, if_pos z]
          · rw [if_neg z, if_neg z, getD_app (by omega)]
        rw [e2, getD_app hj]
        exact ⟨a, by omega⟩
      · have hj : j = (ct B w st n i).length := by omega
        subst hj
        rw [getD_end]
        refine ⟨?_, Nat.le_refl _⟩
        unfold cst
        by_cases z : (ct B w st n i).length = 0
        · rw [if_pos z]; omega
        · rw [if_neg z, getD_app (by omega)]
          have := (ih ((ct B w st n i).length - 1) (by omega)).2
          omega
    · rw [if_neg c] at h ⊢
      obtain ⟨a, b⟩ := ih j h
      exact ⟨a, by omega⟩
/-- are the chunk i of the one and j of the other alike -/
def lk (B C : Nat → Nat) (l m : List Nat) (i j : Nat) : Bool := decide (l.getD i 0 - cst l i = m.getD j 0 - cst m j) && (fo (fun k => !(B (cst l i + k) == C (cst m j + k))) 0 (l.getD i 0 - cst l i)).isNone
theorem endI {l : List Nat} {e : Nat → Int32} {j : Nat} (h : ∀ j, j < l.length → e j = nI (l.getD j 0)) (hl : l.length ≤ 65) (hj : j < l.length) : t_X0_endOf (nI j) e = nI (l.getD j 0) := by
  unfold t_X0_endOf
  rw [if_neg (nI_pos (by omega)), if_neg (nI_ge (by omega) (by omega)), nI_clamp (by omega), h j hj]
theorem endS {l : List Nat} {e : Nat → Int32} {j : Nat} (h : ∀ j, j < l.length → e j = nI (l.getD j 0)) (hl : l.length ≤ 65) (hj : j < l.length) : t_X0_endOf (nI j - 1) e = nI (cst l j) := by
  unfold cst
  by_cases z : j = 0
  · subst z
    rw [if_pos rfl]
    unfold t_X0_endOf
    rw [if_pos (by decide)]
    rfl
  · rw [nI_pred' (by omega), if_neg z, endI h hl (by omega)]
section STAY
variable {B C : Nat → Nat} {l m : List Nat} {a37 a42 a38 a43 a49 a51 a59 a60 : Nat → Int32} {nl nm : Nat}
theorem isLikeC {i j : Nat} (h36 : ∀ j, j < l.length → a38 j = nI (l.getD j 0)) (h39 : ∀ j, j < m.length → a43 j = nI (m.getD j 0)) (hl : l.length ≤ 65) (hm : m.length ≤ 65) (ol : ∀ j, j < l.length → cst l j < l.getD j 0 ∧ l.getD j 0 ≤ nl) (om : ∀ j, j < m.length → cst m j < m.getD j 0 ∧ m.getD j 0 ≤ nm) (hnl : nl ≤ 64) (hnm : nm ≤ 65) (hB : ∀ k, k < nl → B k < 256 ∧ a37 k = nI (B k)) (hC : ∀ k, k < nm → C k < 256 ∧ a42 k = nI (C k)) (hi : i < l.length) (hj : j < m.length) : q_X0_isLike (nI j) (nI i) a43 a38 a42 a37 = some (if lk B C l m i j = true then 1 else 0) := by
  obtain ⟨o1, o2⟩ := ol i hi
  obtain ⟨p1, p2⟩ := om j hj
  unfold q_X0_isLike
  rw [endI h36 hl hi, endS h36 hl hi, endI h39 hm hj, endS h39 hm hj, nI_sub (by omega), nI_sub (by omega)]
  by_cases hz : l.getD i 0 - cst l i = m.getD j 0 - cst m j
  · rw [hz, if_pos rfl]
    have hlk : lk B C l m i j = (fo (fun k => !(B (cst l i + k) == C (cst m j + k))) 0 (m.getD j 0 - cst m j)).isNone := by unfold lk; rw [hz, decide_eq_true rfl, Bool.true_and]
    obtain ⟨r, hr, g⟩ := loop_inv (F := fun k (x : Int32) => q_X0_isLike_L46 (nI (cst m j)) (nI (cst l i)) (nI (m.getD j 0 - cst m j)) a42 a37 k x)
      (fun k x => x = nI k ∧ fo (fun k => !(B (cst l i + k) == C (cst m j + k))) 0 (m.getD j 0 - cst m j) = fo (fun k => !(B (cst l i + k) == C (cst m j + k))) k (m.getD j 0 - cst m j - k))
      (fun r => (xlp (some r) (fun _ => some (1 : Int32)) (fun y => some y)) = some (if lk B C l m i j = true then (1 : Int32) else 0)) (m.getD j 0 - cst m j)
      (fun k x h => by
        obtain ⟨rfl, h⟩ := h
        refine ⟨_, by show q_X0_isLike_L46 _ _ _ _ _ (k + 1) _ = _; rw [q_X0_isLike_L46, if_pos (nI_le (Nat.le_refl _) (by omega))], ?_⟩
        rw [hlk, h, Nat.sub_self]
        rfl)
      (fun k t x ht h => by
        obtain ⟨rfl, h⟩ := h
        obtain ⟨b1, b2⟩ := hB (cst l i + t) (by omega)
        obtain ⟨d1, d2⟩ := hC (cst m j + t) (by omega)
        show (∃ r, q_X0_isLike_L46 _ _ _ _ _ (k + 1) (nI t) = some r ∧ _) ∨ ∃ s', q_X0_isLike_L46 _ _ _ _ _ (k + 1) (nI t) = q_X0_isLike_L46 _ _ _ _ _ k s' ∧ _
        rw [q_X0_isLike_L46, if_neg (nI_ge ht (by omega)), nI_add, nI_add, atI (by omega) (by omega), atI (by omega) (by omega), b2, d2]
        by_cases e : C (cst m j + t) = B (cst l i + t)
        · rw [e, if_pos rfl, nI_1]
          refine Or.inr ⟨_, rfl, rfl, ?_⟩
          rw [h, fo_F (by omega) (by simp [e]), Nat.sub_sub]
        · rw [if_neg (ne_of_nI e (by omega) (by omega))]
          refine Or.inl ⟨_, rfl, ?_⟩
          rw [hlk, h, fo_T (by omega) (by simp; exact fun q => e q.symm)]
          rfl)
      10000 0 (nI 0) ⟨rfl, rfl⟩ (Nat.zero_le _) (by omega)
    have hr' : q_X0_isLike_L46 (nI (cst m j)) (nI (cst l i)) (nI (m.getD j 0 - cst m j)) a42 a37 10000 0 = some r := hr
    rw [hr']
    exact g
  · have hlk : lk B C l m i j = false := by unfold lk; rw [decide_eq_false hz, Bool.false_and]
    rw [if_neg (ne_of_nI hz (by omega) (by omega)), hlk]
    rfl
end STAY

/-! The levels of the tree. -/
def cnt (n : Nat) : Nat → Nat
  | 0 => (n + 3) / 4
  | l + 1 => (cnt n l + 1) / 2
def tV (B : Nat → Nat) (n : Nat) : Nat → Nat → Nat
  | 0, i => lf B n i
  | l + 1, i => if 2 * i + 1 < cnt n l then pr (tV B n l (2 * i)) (tV B n l (2 * i + 1)) else tV B n l (2 * i)
theorem tV_lt (B : Nat → Nat) (n : Nat) : ∀ l i, tV B n l i < 4294967296 := by
  intro l
  induction l with
  | zero => intro i; exact lf_lt B n i
  | succ l ih =>
    intro i
    show (if _ then _ else _) < _
    split
    · exact pr_lt _ _
    · exact ih _
theorem cnt_le {n : Nat} (hn : n ≤ 64) : ∀ l, cnt n l ≤ 16 := by
  intro l
  induction l with
  | zero => show (n + 3) / 4 ≤ 16; omega
  | succ l ih => show (cnt n l + 1) / 2 ≤ 16; omega
/-- a row of sums that may differ from the tree's in one leaf's branch is spoken of by a function U of its own -/
theorem goesUpM {m : Nat} {U W : Nat → Nat} {c : Int32} {a65 : Nat → Int64} {a50 : Nat → Int32} (hm : m ≤ 16) (hU : ∀ i, i < m → U i < 4294967296 ∧ a65 i = lN (U i)) (hW : ∀ i, 2 * i < m → W i = if 2 * i + 1 < m then pr (U (2 * i)) (U (2 * i + 1)) else U (2 * i)) :
    ∃ c' g h, q_X12_goesUp (nI m) c a65 a50 = some (nI ((m + 1) / 2), c', g, h) ∧ ∀ i, i < (m + 1) / 2 → g i = lN (W i) := by
  obtain ⟨r, hr, g⟩ := loop_inv (F := fun f (z : Int32 × Int32 × (Nat → Int64) × (Nat → Int32)) => q_X12_goesUp_L2 (nI m) f z.1 z.2.1 z.2.2.1 z.2.2.2)
    (fun j z => z.1 = nI j ∧ (∀ i, i < j → z.2.2.1 i = lN (W i)) ∧ ∀ i, j ≤ i → i < m → z.2.2.1 i = lN (U i)) (fun r => ∀ i, i < (m + 1) / 2 → r.2.2.1 i = lN (W i)) ((m + 1) / 2)
    (fun f z h => by
      obtain ⟨l, c, a, b⟩ := z
      obtain ⟨e1, e2, e3⟩ := h
      have e1 : l = nI ((m + 1) / 2) := e1
      subst e1
      exact ⟨_, by show q_X12_goesUp_L2 _ (f + 1) (nI _) c a b = _; rw [q_X12_goesUp_L2, show (2 : Int32) * nI ((m + 1) / 2) = nI (2 * ((m + 1) / 2)) from nI_mul 2 _, if_pos (nI_le (by omega) (by omega))], e2⟩)
    (fun f j z hj h => by
      obtain ⟨l, c, a, b⟩ := z
      obtain ⟨e1, e2, e3⟩ := h
      have e1 : l = nI j := e1
      subst e1
      have u1 : a (2 * j) = lN (U (2 * j)) := e3 (2 * j) (by omega) (by omega)
      have fin : ∀ v : Int64, v = lN (W j) → (∀ i, i < j + 1 → vp_updL a j v i = lN (W i)) ∧ ∀ i, j + 1 ≤ i → i < m → vp_updL a j v i = lN (U i) := by
        intro v hv
        refine ⟨fun i hi => ?_, fun i h1 h2 => ?_⟩
        · by_cases e : i = j
          · subst e; rw [updL_eq, hv]
          · rw [updL_ne e]; exact e2 i (by omega)
        · rw [updL_ne (by omega)]; exact e3 i (by omega) h2
      have k1' : (2 : Int32) * nI j = nI (2 * j) := nI_mul 2 j
      by_cases c1 : 2 * j + 1 < m
      · have u2 : a (2 * j + 1) = lN (U (2 * j + 1)) := e3 (2 * j + 1) (by omega) (by omega)
        obtain ⟨q, hq⟩ := pairM (x := U (2 * j)) (y := U (2 * j + 1)) (a50 := b) (hU _ (by omega)).1 (hU _ c1).1
        refine Or.inr ⟨(nI (j + 1), 8, vp_updL a j (lN (pr (U (2 * j)) (U (2 * j + 1)))), q), ?_, rfl, fin _ (by rw [hW j (by omega), if_pos c1])⟩
        show q_X12_goesUp_L2 _ (f + 1) (nI j) c a b = q_X12_goesUp_L2 _ f (nI (j + 1)) _ _ _
        rw [q_X12_goesUp_L2, k1', if_neg (nI_ge (by omega) (by omega)), nI_1, if_neg (nI_ge c1 (by omega)), if_pos (xinI (by omega) (by omega)), if_pos (xinI (by omega) (by omega)), nI_clamp (by omega), nI_clamp (by omega), u1, u2, hq, Option.bind_some, if_pos (xinI (by omega) (by omega)), nI_clamp (by omega), nI_1]
      · refine Or.inr ⟨(nI (j + 1), c, vp_updL a j (lN (U (2 * j))), b), ?_, rfl, fin _ (by rw [hW j (by omega), if_neg c1])⟩
        show q_X12_goesUp_L2 _ (f + 1) (nI j) c a b = q_X12_goesUp_L2 _ f (nI (j + 1)) _ _ _
        rw [q_X12_goesUp_L2, k1', if_neg (nI_ge (by omega) (by omega)), nI_1, if_pos (nI_le (by omega) (by omega)), if_pos (xinI (by omega) (by omega)), if_pos (xinI (by omega) (by omega)), nI_clamp (by omega), nI_clamp (by omega), u1, nI_1])
    10000 0 (nI 0, c, a65, a50) ⟨rfl, fun i hi => absurd hi (Nat.not_lt_zero i), fun i _ hi => (hU i hi).2⟩ (Nat.zero_le _) (by omega)
  have hr' : q_X12_goesUp_L2 (nI m) 10000 0 c a65 a50 = some r := hr
  refine ⟨r.2.1, r.2.2.1, r.2.2.2, ?_, g⟩
  unfold q_X12_goesUp
  rw [hr', Option.bind_some, nI_1, show (2 : Int32) = nI 2 from rfl, nI_div (by omega) (by omega) (by omega)]
theorem leavesT {n : Nat} (hn : n ≤ 64) : t_X12_leaves (nI n) = nI (cnt n 0) := by
  unfold t_X12_leaves
  rw [show nI n + 3 = nI (n + 3) from nI_add n 3, show (4 : Int32) = nI 4 from rfl, nI_div (by omega) (by omega) (by omega)]
  rfl
theorem layLeavesM {n : Nat} {B : Nat → Nat} {c : Int32} {a49 a50 : Nat → Int32} {a65 : Nat → Int64} (hn : n ≤ 64) (hB : ∀ k, k < n → B k < 256 ∧ a49 k = nI (B k)) :
    ∃ c' g h, q_X12_layLeaves (nI n) c a49 a50 a65 = some (c', g, h) ∧ ∀ i, i < cnt n 0 → h i = lN (tV B n 0 i) := by
  have h16 := cnt_le hn 0
  have hc : cnt n 0 = (n + 3) / 4 := rfl
  obtain ⟨r, hr, g⟩ := loop_inv (F := fun f (z : Int32 × Int32 × (Nat → Int32) × (Nat → Int64)) => q_X12_layLeaves_L2 (nI n) a49 f z.1 z.2.1 z.2.2.1 z.2.2.2)
    (fun j z => z.1 = nI j ∧ ∀ i, i < j → z.2.2.2 i = lN (tV B n 0 i)) (fun r => ∀ i, i < cnt n 0 → r.2.2.2 i = lN (tV B n 0 i)) (cnt n 0)
    (fun f z h => by
      obtain ⟨l, c, a, b⟩ := z
      obtain ⟨e1, e2⟩ := h
      have e1 : l = nI (cnt n 0) := e1
      subst e1
      exact ⟨_, by show q_X12_layLeaves_L2 _ _ (f + 1) (nI _) c a b = _; rw [q_X12_layLeaves_L2, leavesT hn, if_pos (nI_le (Nat.le_refl _) (by omega))], e2⟩)
    (fun f j z hj h => by
      obtain ⟨l, c, a, b⟩ := z
      obtain ⟨e1, e2⟩ := h
      have e1 : l = nI j := e1
      subst e1
      obtain ⟨c', g', hg⟩ := leafM (i := j) (a50 := a) hn (by omega) hB
      refine Or.inr ⟨(nI (j + 1), c', g', vp_updL b j (lN (lf B n j))), ?_, rfl, fun i hi => ?_⟩
      · show q_X12_layLeaves_L2 _ _ (f + 1) (nI j) c a b = q_X12_layLeaves_L2 _ _ f (nI (j + 1)) _ _ _
        rw [q_X12_layLeaves_L2, leavesT hn, if_neg (nI_ge hj (by omega)), hg, Option.bind_some, if_pos (xinI (by omega) (by omega)), nI_clamp (by omega), nI_1]
      · show vp_updL b j _ i = _
        by_cases e : i = j
        · subst e; exact updL_eq
        · rw [updL_ne e]; exact e2 i (by omega))
    10000 0 (nI 0, c, a50, a65) ⟨rfl, fun i hi => absurd hi (Nat.not_lt_zero i)⟩ (Nat.zero_le _) (by omega)
  have hr' : q_X12_layLeaves_L2 (nI n) a49 10000 0 c a50 a65 = some r := hr
  refine ⟨r.2.1, r.2.2.1, r.2.2.2, ?_, g⟩
  unfold q_X12_layLeaves
  rw [hr', Option.bind_some]
theorem cnt_step {n l : Nat} (h : 1 < cnt n l) : cnt n (l + 1) < cnt n l ∧ 1 ≤ cnt n (l + 1) := by
  show (cnt n l + 1) / 2 < cnt n l ∧ 1 ≤ (cnt n l + 1) / 2
  omega
/-- up to the root, from any level -/
theorem root23 {n : Nat} {B : Nat → Nat} (hn : n ≤ 64) : ∀ t l f c a50 a65, cnt n l ≤ t → 1 ≤ cnt n l → t < f → (∀ i, i < cnt n l → a65 i = lN (tV B n l i)) →
    ∃ L, l ≤ L ∧ cnt n L = 1 ∧ (∀ k, l ≤ k → k < L → 1 < cnt n k) ∧ ∃ r : Int32 × Int32 × (Nat → Int32) × (Nat → Int64), q_X12_root_L23 f (nI (cnt n l)) c a50 a65 = some r ∧ r.2.2.2 0 = lN (tV B n L 0) := by
  intro t
  induction t with
  | zero => intro l f c a50 a65 h1 h2; omega
  | succ t ih =>
    intro l f c a50 a65 h1 h2 hf hv
    obtain ⟨f, rfl⟩ : ∃ g, f = g + 1 := ⟨f - 1, by omega⟩
    have h16 := cnt_le hn l
    by_cases c1 : cnt n l = 1
    · refine ⟨l, Nat.le_refl l, c1, fun k h1 h2 => by omega, (nI (cnt n l), c, a50, a65), ?_, hv 0 (by omega)⟩
      rw [q_X12_root_L23, if_pos (by rw [c1]; decide)]
    · obtain ⟨s1, s2⟩ := cnt_step (n := n) (l := l) (by omega)
      obtain ⟨c', g, h, e1, e2⟩ := goesUpM (W := tV B n (l + 1)) (c := c) (a50 := a50) h16 (fun i hi => ⟨tV_lt B n l i, hv i hi⟩) (fun i _ => rfl)
      obtain ⟨L, l1, l2, l3, r, r1, r2⟩ := ih (l + 1) f c' h g (by omega) s2 (by omega) e2
      refine ⟨L, by omega, l2, fun k k1 k2 => ?_, r, ?_, r2⟩
      · by_cases e : k = l
        · subst e; omega
        · exact l3 k (by omega) k2
      · rw [q_X12_root_L23, if_neg (show ¬ nI (cnt n l) ≤ 1 by rw [leI, nI_toInt (by omega), show (1 : Int32).toInt = 1 from rfl]; omega), e1, Option.bind_some]
        exact r1

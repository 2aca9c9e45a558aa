/-! The tree's levels of the class; the call root. -/
theorem setT {l i : Nat} {v : Int64} {a : Nat → Int64} (h : 16 * l + i < 80) : t_X9_setSum (nI l) (nI i) v a = vp_updL a (16 * l + i) v := by
  unfold t_X9_setSum
  rw [show (16 : Int32) * nI l = nI (16 * l) from nI_mul 16 l, nI_add, if_neg (nI_pos (by omega)), if_neg (nI_ge h (by omega)), nI_clamp (by omega)]
theorem sumT {l i : Nat} {a : Nat → Int64} (h : 16 * l + i < 80) : t_X9_sumAt (nI l) (nI i) a = a (16 * l + i) := by
  unfold t_X9_sumAt
  rw [show (16 : Int32) * nI l = nI (16 * l) from nI_mul 16 l, nI_add, if_neg (nI_pos (by omega)), if_neg (nI_ge h (by omega)), nI_clamp (by omega)]
theorem growLevelC {l m : Nat} {U W : Nat → Nat} {a46 : Nat → Int64} (hl : l < 4) (hm : m ≤ 16) (hU : ∀ i, i < m → U i < 4294967296 ∧ a46 (16 * l + i) = lN (U i)) (hW : ∀ i, 2 * i < m → W i = if 2 * i + 1 < m then pr (U (2 * i)) (U (2 * i + 1)) else U (2 * i)) :
    ∃ g, q_X9_growLevel (nI (l + 1)) (nI m) a46 = some g ∧ (∀ i, i < (m + 1) / 2 → g (16 * (l + 1) + i) = lN (W i)) ∧ ∀ t, t < 16 * (l + 1) → g t = a46 t := by
  obtain ⟨r, hr, g1, g2⟩ := loop_inv (F := fun f (z : Int32 × (Nat → Int64)) => q_X9_growLevel_L2 (nI (l + 1)) (nI m) f z.1 z.2)
    (fun j z => z.1 = nI (2 * j) ∧ (∀ i, i < j → z.2 (16 * (l + 1) + i) = lN (W i)) ∧ ∀ t, t < 16 * (l + 1) → z.2 t = a46 t) (fun r => (∀ i, i < (m + 1) / 2 → r.2 (16 * (l + 1) + i) = lN (W i)) ∧ ∀ t, t < 16 * (l + 1) → r.2 t = a46 t) ((m + 1) / 2)
    (fun f z h => by
      obtain ⟨c, a⟩ := z
      obtain ⟨e1, e2⟩ := h
      have e1 : c = nI (2 * ((m + 1) / 2)) := e1
      subst e1
      exact ⟨_, by show q_X9_growLevel_L2 _ _ (f + 1) (nI _) a = _; rw [q_X9_growLevel_L2, if_pos (nI_le (by omega) (by omega))], e2⟩)
    (fun f j z hj h => by
      obtain ⟨c, a⟩ := z
      obtain ⟨e1, e2, e3⟩ := h
      have e1 : c = nI (2 * j) := e1
      subst e1
      have e3 : ∀ t, t < 16 * (l + 1) → a t = a46 t := e3
      have u1 : a (16 * l + 2 * j) = lN (U (2 * j)) := by rw [e3 _ (by omega)]; exact (hU (2 * j) (by omega)).2
      have fin : ∀ v : Int64, v = lN (W j) → (∀ i, i < j + 1 → vp_updL a (16 * (l + 1) + j) v (16 * (l + 1) + i) = lN (W i)) ∧ ∀ t, t < 16 * (l + 1) → vp_updL a (16 * (l + 1) + j) v t = a46 t := by
        intro v hv
        refine ⟨fun i hi => ?_, fun t ht => ?_⟩
        · by_cases e : i = j
          · subst e; rw [updL_eq, hv]
          · rw [updL_ne (by omega)]; exact e2 i (by omega)
        · rw [updL_ne (by omega)]; exact e3 t ht
      have k1' : nI (l + 1) - 1 = nI l := by rw [nI_pred' (by omega), Nat.add_sub_cancel]
      have k2' : nI (2 * j) / 2 = nI j := by rw [show (2 : Int32) = nI 2 from rfl, nI_div (by omega) (by omega) (by omega), Nat.mul_div_cancel_left _ (by decide)]
      have k3' : nI (2 * j) + 2 = nI (2 * (j + 1)) := by rw [show (2 : Int32) = nI 2 from rfl, nI_add]; rfl
      by_cases c1 : 2 * j + 1 < m
      · have u2 : a (16 * l + (2 * j + 1)) = lN (U (2 * j + 1)) := by rw [e3 _ (by omega)]; exact (hU (2 * j + 1) c1).2
        refine Or.inr ⟨(nI (2 * (j + 1)), vp_updL a (16 * (l + 1) + j) (lN (pr (U (2 * j)) (U (2 * j + 1))))), ?_, rfl, fin _ (by rw [hW j (by omega), if_pos c1])⟩
        show q_X9_growLevel_L2 _ _ (f + 1) (nI (2 * j)) a = q_X9_growLevel_L2 _ _ f (nI (2 * (j + 1))) _
        rw [q_X9_growLevel_L2, if_neg (nI_ge (by omega) (by omega)), nI_1, if_neg (nI_ge c1 (by omega)), k1', sumT (by omega), sumT (by omega), u1, u2, pairC (hU _ (by omega)).1 (hU _ c1).1, Option.bind_some, k2', setT (by omega), k3']
      · refine Or.inr ⟨(nI (2 * (j + 1)), vp_updL a (16 * (l + 1) + j) (lN (U (2 * j)))), ?_, rfl, fin _ (by rw [hW j (by omega), if_neg c1])⟩
        show q_X9_growLevel_L2 _ _ (f + 1) (nI (2 * j)) a = q_X9_growLevel_L2 _ _ f (nI (2 * (j + 1))) _
        rw [q_X9_growLevel_L2, if_neg (nI_ge (by omega) (by omega)), nI_1, if_pos (nI_le (by omega) (by omega)), k1', sumT (by omega), u1, k2', setT (by omega), k3'])
    10000 0 (nI (2 * 0), a46) ⟨rfl, fun i hi => absurd hi (Nat.not_lt_zero i), fun _ _ => rfl⟩ (Nat.zero_le _) (by omega)
  have hr' : q_X9_growLevel_L2 (nI (l + 1)) (nI m) 10000 0 a46 = some r := hr
  refine ⟨r.2, ?_, g1, g2⟩
  unfold q_X9_growLevel
  rw [hr', Option.bind_some]
theorem leavesC {n : Nat} (hn : n ≤ 64) : t_X9_leavesOf (nI n) = nI (cnt n 0) := by
  unfold t_X9_leavesOf t_X5_size
  rw [show nI n + 4 = nI (n + 4) from nI_add n 4, nI_pred' (by omega), show (4 : Int32) = nI 4 from rfl, nI_div (by omega) (by omega) (by omega), show n + 4 - 1 = n + 3 by omega]
  rfl
theorem grow12 {n : Nat} {B : Nat → Nat} {a2 : Nat → Int32} {a46 : Nat → Int64} (hn : n ≤ 64) (hB : ∀ k, k < n → B k < 256 ∧ a2 k = nI (B k)) :
    ∃ r : Int32 × (Nat → Int64), q_X9_grow_L12 (nI (cnt n 0)) (nI n) a2 10000 0 a46 = some r ∧ ∀ i, i < cnt n 0 → r.2 i = lN (tV B n 0 i) := by
  have h16 := cnt_le hn 0
  have hc : cnt n 0 = (n + 3) / 4 := rfl
  obtain ⟨r, hr, g⟩ := loop_inv (F := fun f (z : Int32 × (Nat → Int64)) => q_X9_grow_L12 (nI (cnt n 0)) (nI n) a2 f z.1 z.2)
    (fun j z => z.1 = nI j ∧ ∀ i, i < j → z.2 i = lN (tV B n 0 i)) (fun r => ∀ i, i < cnt n 0 → r.2 i = lN (tV B n 0 i)) (cnt n 0)
    (fun f z h => by
      obtain ⟨c, a⟩ := z
      obtain ⟨e1, e2⟩ := h
      have e1 : c = nI (cnt n 0) := e1
      subst e1
      exact ⟨_, by show q_X9_grow_L12 _ _ _ (f + 1) (nI _) a = _; rw [q_X9_grow_L12, if_pos (nI_le (Nat.le_refl _) (by omega))], e2⟩)
    (fun f j z hj h => by
      obtain ⟨c, a⟩ := z
      obtain ⟨e1, e2⟩ := h
      have e1 : c = nI j := e1
      subst e1
      refine Or.inr ⟨(nI (j + 1), vp_updL a j (lN (lf B n j))), ?_, rfl, fun i hi => ?_⟩
      · have k1' : (4 : Int32) * nI j = nI (4 * j) := nI_mul 4 j
        have k2' : nI (4 * j) + 4 = nI (4 * j + 4) := nI_add (4 * j) 4
        have k3' := nI_min' (a := 4 * j + 4) (b := n) (by omega) (by omega)
        have k4' : t_X9_setSum 0 (nI j) (lN (lf B n j)) a = vp_updL a (16 * 0 + j) (lN (lf B n j)) := setT (l := 0) (by omega)
        show q_X9_grow_L12 _ _ _ (f + 1) (nI j) a = q_X9_grow_L12 _ _ _ f (nI (j + 1)) _
        unfold t_X5_size at *
        rw [q_X9_grow_L12, if_neg (nI_ge hj (by omega)), k1', k2']
        unfold t_X5_size
        rw [k3', Nat.min_comm, leafC hn (by omega) hB, Option.bind_some, k4', nI_1, Nat.mul_zero, Nat.zero_add]
      · show vp_updL a j _ i = _
        by_cases e : i = j
        · subst e; exact updL_eq
        · rw [updL_ne e]; exact e2 i (by omega))
    10000 0 (nI 0, a46) ⟨rfl, fun i hi => absurd hi (Nat.not_lt_zero i)⟩ (Nat.zero_le _) (by omega)
  exact ⟨r, hr, g⟩
/-- what stands in the tree when levels 0 to l are laid -/
def TR (B : Nat → Nat) (n l : Nat) (a46 : Nat → Int64) (a47 : Nat → Int32) : Prop := ∀ k, k ≤ l → a47 k = nI (cnt n k) ∧ ∀ i, i < cnt n k → a46 (16 * k + i) = lN (tV B n k i)
theorem grow65 {n : Nat} {B : Nat → Nat} (hn : n ≤ 64) (h0 : 1 ≤ n) : ∀ t l f a46 a47, l + t = 4 → t < f → 1 ≤ cnt n l → TR B n l a46 a47 →
    ∃ L, l ≤ L ∧ L ≤ 4 ∧ cnt n L = 1 ∧ (∀ k, l ≤ k → k < L → 1 < cnt n k) ∧ ∃ r : Int32 × (Nat → Int64) × Int32 × (Nat → Int32), q_X9_grow_L65 f (nI (l + 1)) a46 (nI (l + 1)) a47 = some r ∧ r.2.2.1 = nI (L + 1) ∧ TR B n L r.2.1 r.2.2.2 := by
  intro t
  induction t with
  | zero =>
    intro l f a46 a47 hl hf h1 hT
    obtain ⟨f, rfl⟩ : ∃ g, f = g + 1 := ⟨f - 1, by omega⟩
    have : l = 4 := by omega
    subst this
    have hc : cnt n 4 = 1 := by
      show (((((n + 3) / 4 + 1) / 2 + 1) / 2 + 1) / 2 + 1) / 2 = 1
      omega
    exact ⟨4, Nat.le_refl 4, Nat.le_refl 4, hc, fun k h1 h2 => by omega, _, by rw [q_X9_grow_L65, if_pos (show nI 5 ≤ nI (4 + 1) by decide)], rfl, hT⟩
  | succ t ih =>
    intro l f a46 a47 hl hf h1 hT
    obtain ⟨f, rfl⟩ : ∃ g, f = g + 1 := ⟨f - 1, by omega⟩
    have h16 := cnt_le hn l
    have k1' : nI (l + 1) - 1 = nI l := by rw [nI_pred' (by omega), Nat.add_sub_cancel]
    have a1 := (hT l (Nat.le_refl l)).1
    by_cases c1 : cnt n l = 1
    · refine ⟨l, Nat.le_refl l, by omega, c1, fun k h1 h2 => by omega, (nI (l + 1), a46, nI (l + 1), a47), ?_, rfl, hT⟩
      rw [q_X9_grow_L65, if_neg (show ¬ nI 5 ≤ nI (l + 1) from nI_ge (by omega) (by omega)), k1', if_pos (xinI (by omega) (by omega)), nI_clamp (by omega), a1, c1, if_pos (show nI 1 ≤ 1 by decide)]
    · obtain ⟨s1, s2⟩ := cnt_step (n := n) (l := l) (by omega)
      obtain ⟨g, e1, e2, e3⟩ := growLevelC (l := l) (W := tV B n (l + 1)) (a46 := a46) (by omega) h16 (fun i hi => ⟨tV_lt B n l i, (hT l (Nat.le_refl l)).2 i hi⟩) (fun i _ => rfl)
      have hT' : TR B n (l + 1) g (upd a47 (l + 1) (nI (cnt n (l + 1)))) := by
        intro k hk
        by_cases e : k = l + 1
        · subst e; exact ⟨upd_eq, e2⟩
        · obtain ⟨b1, b2⟩ := hT k (by omega)
          have := cnt_le hn k
          exact ⟨by rw [upd_ne e]; exact b1, fun i hi => by rw [e3 _ (by omega)]; exact b2 i hi⟩
      obtain ⟨L, l1, l2, l3, l4, r, r1, r2⟩ := ih (l + 1) f g _ (by omega) (by omega) s2 hT'
      refine ⟨L, by omega, l2, l3, fun k k1 k2 => ?_, r, ?_, r2⟩
      · by_cases e : k = l
        · subst e; omega
        · exact l4 k (by omega) k2
      · have ec : (nI (cnt n l) + 1) / 2 = nI (cnt n (l + 1)) := by rw [nI_1, show (2 : Int32) = nI 2 from rfl, nI_div (by omega) (by omega) (by omega)]; rfl
        rw [q_X9_grow_L65, if_neg (show ¬ nI 5 ≤ nI (l + 1) from nI_ge (by omega) (by omega)), k1', if_pos (xinI (by omega) (by omega)), nI_clamp (by omega), a1, if_neg (show ¬ nI (cnt n l) ≤ 1 by rw [leI, nI_toInt (by omega), show (1 : Int32).toInt = 1 from rfl]; omega), if_pos (xinI (by omega) (by omega)), e1, Option.bind_some, if_pos (xinI (by omega) (by omega)), if_pos (xinI (by omega) (by omega)), nI_clamp (by omega), ec, nI_1]
        exact r1
theorem growC {n : Nat} {B : Nat → Nat} {a2 a47 : Nat → Int32} {a46 : Nat → Int64} (hn : n ≤ 64) (h0 : 1 ≤ n) (hB : ∀ k, k < n → B k < 256 ∧ a2 k = nI (B k)) :
    ∃ L, L ≤ 4 ∧ cnt n L = 1 ∧ (∀ k, k < L → 1 < cnt n k) ∧ ∃ g h, q_X9_grow (nI n) a2 a46 a47 = some (g, nI (L + 1), h) ∧ TR B n L g h := by
  have h16 := cnt_le hn 0
  have hc : cnt n 0 = (n + 3) / 4 := rfl
  obtain ⟨r, r1, r2⟩ := grow12 (a46 := a46) hn hB
  obtain ⟨L, l1, l2, l3, l4, u, u1, u2, u3⟩ := grow65 (B := B) hn h0 4 0 10000 r.2 (upd a47 0 (nI (cnt n 0))) rfl (by omega) (by omega) (fun k hk => by
    have : k = 0 := by omega
    subst this
    exact ⟨upd_eq, fun i hi => by rw [Nat.mul_zero, Nat.zero_add]; exact r2 i hi⟩)
  have u1 : q_X9_grow_L65 10000 1 r.2 1 (upd a47 0 (nI (cnt n 0))) = some u := u1
  refine ⟨L, l2, l3, fun k hk => l4 k (Nat.zero_le k) hk, u.2.1, u.2.2.2, ?_, u3⟩
  unfold q_X9_grow
  rw [leavesC hn, if_neg (show ¬ (16 : Int32) < nI (cnt n 0) by rw [ltI, nI_toInt (by omega), show (16 : Int32).toInt = 16 from rfl]; omega), r1, Option.bind_some, c0, u1, Option.bind_some, u2]
theorem cnt_uniq {n L M : Nat} (h1 : cnt n L = 1) (h2 : ∀ k, k < L → 1 < cnt n k) (h3 : cnt n M = 1) (h4 : ∀ k, k < M → 1 < cnt n k) : L = M := by
  rcases Nat.lt_trichotomy L M with h | h | h
  · have := h4 L h; omega
  · exact h
  · have := h2 M h; omega

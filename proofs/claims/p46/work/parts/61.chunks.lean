/-! Rolling sums and chunks. -/
def rV (B : Nat → Nat) : Nat → Nat → Nat
  | 0, _ => 0
  | j + 1, s => B s + 31 * rV B j (s - 1)
theorem rV_up (B : Nat → Nat) : ∀ k s, rV B (k + 1) s = rV B k s + 31 ^ k * B (s - k) := by
  intro k
  induction k with
  | zero => intro s; show B s + 31 * 0 = 0 + 1 * B (s - 0); simp
  | succ k ih =>
    intro s
    show B s + 31 * rV B (k + 1) (s - 1) = B s + 31 * rV B k (s - 1) + _
    rw [ih, Nat.mul_add, Nat.pow_succ, show s - 1 - k = s - (k + 1) by omega, Nat.add_assoc, Nat.mul_comm (31 ^ k) 31, Nat.mul_assoc]
theorem rollC {s w m : Nat} {B : Nat → Nat} {f : Nat → Int32} (h1 : 1 ≤ w) (h8 : w ≤ 8) (hw : w ≤ s + 1) (hs : s < m) (hm : m ≤ 100) (hB : ∀ k, k ≤ s → B k < 256 ∧ f k = nI (B k)) : q_X0_rollingSum (nI s) (nI w) m f = some (nI (rV B w s % 65521)) := by
  obtain ⟨r, hr, g1⟩ := loop_inv (F := fun k (x : Int32 × Int32) => q_X0_rollingSum_L7 (nI s) m f k x.1 x.2)
    (fun j x => x.1 = nI (rV B j (s - (w - j)) % 65521) ∧ x.2 = if j < w then nI (w - 1 - j) else -1)
    (fun r => r.1 = nI (rV B w s % 65521)) w
    (fun k x h => by
      obtain ⟨l, c⟩ := x
      obtain ⟨e1, e2⟩ := h
      have e2 : c = if w < w then nI (w - 1 - w) else -1 := e2
      rw [if_neg (by omega)] at e2
      subst e2
      rw [show w - w = 0 by omega] at e1
      refine ⟨_, ?_, e1⟩
      show q_X0_rollingSum_L7 _ _ _ (k + 1) l (-1) = _
      rw [q_X0_rollingSum_L7, if_pos (by decide)])
    (fun k j x hj h => by
      obtain ⟨l, c⟩ := x
      obtain ⟨e1, e2⟩ := h
      have e1 : l = nI (rV B j (s - (w - j)) % 65521) := e1
      have e2 : c = nI (w - 1 - j) := Eq.trans e2 (if_pos hj)
      obtain ⟨b1, b2⟩ := hB (s - (w - 1 - j)) (by omega)
      have q := Nat.mod_lt (rV B j (s - (w - j))) (show 0 < 65521 by omega)
      have E : ((31 : Int32) * nI (rV B j (s - (w - j)) % 65521) + f (s - (w - 1 - j))) - ((31 : Int32) * nI (rV B j (s - (w - j)) % 65521) + f (s - (w - 1 - j))) / 65521 * 65521 = nI (rV B (j + 1) (s - (w - (j + 1))) % 65521) := by
        rw [b2, show (31 : Int32) = nI 31 from rfl, nI_mul, nI_add, show (65521 : Int32) = nI 65521 from rfl, nI_mod (by omega) (by omega) (by omega)]
        exact congrArg nI (by
          rw [show s - (w - (j + 1)) = s - (w - 1 - j) by omega, show rV B (j + 1) (s - (w - 1 - j)) = B (s - (w - 1 - j)) + 31 * rV B j (s - (w - 1 - j) - 1) from rfl, show s - (w - 1 - j) - 1 = s - (w - j) by omega]
          generalize rV B j (s - (w - j)) = u
          generalize B (s - (w - 1 - j)) = v
          omega)
      have E2 : nI (w - 1 - j) + (-1) = if j + 1 < w then nI (w - 1 - (j + 1)) else -1 := by
        by_cases e : j + 1 < w
        · rw [if_pos e, nI_dec (by omega), show w - 1 - j - 1 = w - 1 - (j + 1) by omega]
        · rw [if_neg e, show w - 1 - j = 0 by omega]
          decide
      obtain ⟨A, hA⟩ : ∃ A, A = nI (rV B (j + 1) (s - (w - (j + 1))) % 65521) := ⟨_, rfl⟩
      obtain ⟨C, hC⟩ : ∃ C, C = if j + 1 < w then nI (w - 1 - (j + 1)) else -1 := ⟨_, rfl⟩
      rw [← hA] at E
      rw [← hC] at E2
      have key : q_X0_rollingSum_L7 (nI s) m f (k + 1) (nI (rV B j (s - (w - j)) % 65521)) (nI (w - 1 - j)) = q_X0_rollingSum_L7 (nI s) m f k A C := by
        rw [q_X0_rollingSum_L7, if_neg (nI_pos (by omega)), nI_sub (by omega), atI (by omega) (by omega), E, E2]
      refine Or.inr ⟨(A, C), ?_, hA, hC⟩
      show q_X0_rollingSum_L7 (nI s) m f (k + 1) l c = q_X0_rollingSum_L7 (nI s) m f k A C
      rw [e1, e2]
      exact key)
    10000 0 (nI 0, nI (w - 1)) ⟨rfl, by show _ = if 0 < w then nI (w - 1 - 0) else -1; rw [if_pos (by omega)]; rfl⟩ (Nat.zero_le _) (by omega)
  unfold q_X0_rollingSum
  have hr' : q_X0_rollingSum_L7 (nI s) m f 10000 0 (nI (w - 1)) = some r := hr
  rw [nI_pred' (by omega), hr', Option.bind_some, g1]
/-- does a chunk end behind the place k of n -/
def cuB (B : Nat → Nat) (w st n k : Nat) : Bool := (decide (w ≤ k + 1) && (rV B w k % 65521 % st == 0)) || (k + 1 == n)
/-- where chunks end, up to the place i -/
def ct (B : Nat → Nat) (w st n : Nat) : Nat → List Nat
  | 0 => []
  | i + 1 => if cuB B w st n i = true then ct B w st n i ++ [i + 1] else ct B w st n i
theorem ct_len (B : Nat → Nat) (w st n : Nat) : ∀ i, (ct B w st n i).length ≤ i := by
  intro i
  induction i with
  | zero => exact Nat.le_refl _
  | succ i ih =>
    show (if cuB B w st n i = true then ct B w st n i ++ [i + 1] else ct B w st n i).length ≤ i + 1
    split
    · rw [List.length_append]; show _ + 1 ≤ _; omega
    · omega
theorem ends_app {l : List Nat} {x : Nat} {e : Nat → Int32} (h : ∀ j, j < l.length → e j = nI (l.getD j 0)) : ∀ j, j < (l ++ [x]).length → upd e l.length (nI x) j = nI ((l ++ [x]).getD j 0) := by
  intro j hj
  rw [List.length_append] at hj
  have hj : j < l.length + 1 := hj
  by_cases c : j = l.length
  · subst c
    rw [upd_eq]
    simp [List.getD_eq_getElem?_getD]
  · rw [upd_ne c, h j (by omega)]
    simp [List.getD_eq_getElem?_getD, List.getElem?_append_left (show j < l.length by omega)]
theorem isCutC {s w st m : Nat} {B : Nat → Nat} {f : Nat → Int32} (h1 : 1 ≤ w) (h8 : w ≤ 8) (hst : 2 ≤ st) (hst2 : st ≤ 64) (hs : s < m) (hm : m ≤ 100) (hB : ∀ k, k ≤ s → B k < 256 ∧ f k = nI (B k)) : q_X0_isCut (nI s) (nI w) (nI st) m f = some (if (decide (w ≤ s + 1) && (rV B w s % 65521 % st == 0)) = true then 1 else 0) := by
  unfold q_X0_isCut
  rw [nI_pred' (by omega)]
  by_cases c : w ≤ s + 1
  · have q := Nat.mod_lt (rV B w s) (show 0 < 65521 by omega)
    rw [if_neg (nI_nlt (by omega) (by omega)), if_neg (show ¬ nI st ≤ 0 from nI_nle (by omega) (by omega)), rollC h1 h8 c hs hm hB, Option.bind_some, if_neg (nI_ne0 (by omega) (by omega)), nI_mod (by omega) (by omega) (by omega), decide_eq_true c, Bool.true_and]
    by_cases z : rV B w s % 65521 % st = 0
    · rw [z, if_neg (show ¬ ¬ nI 0 = 0 from fun h => h rfl), if_pos (by decide)]
    · have q2 := Nat.mod_lt (rV B w s % 65521) (show 0 < st by omega)
      rw [if_pos (nI_ne0 (by omega) (by omega)), if_neg (by rw [beq_iff_eq]; exact z)]
  · rw [if_pos (nI_lt (by omega) (by omega)), decide_eq_false c, Bool.false_and, if_neg (by decide)]
theorem copyC {n m0 m1 : Nat} {f g : Nat → Int32} (hn : n ≤ m0) (hn1 : n ≤ m1) (h0 : m0 ≤ 1000) (h1 : m1 ≤ 1000) : ∃ e, q_X5_copy (nI n) m0 f m1 g = some (nI n, e) ∧ ∀ t, e t = if t < n then g t else f t := by
  obtain ⟨u, hu, hu2⟩ := loop_inv (F := fun k (x : Int32 × (Nat → Int32)) => q_X5_copy_L18 (nI n) m0 m1 g k x.1 x.2)
    (fun i x => x.1 = nI i ∧ ∀ t, x.2 t = if t < i then g t else f t) (fun r => ∀ t, r.2 t = if t < n then g t else f t) n
    (fun k x h => by
      obtain ⟨c, v⟩ := x
      obtain ⟨e1, e2⟩ := h
      have e1 : c = nI n := e1
      subst e1
      exact ⟨_, by show q_X5_copy_L18 _ _ _ _ (k + 1) _ _ = _; rw [q_X5_copy_L18, if_pos (nI_le (Nat.le_refl _) (by omega))], e2⟩)
    (fun k i x hi h => by
      obtain ⟨c, v⟩ := x
      obtain ⟨e1, e2⟩ := h
      have e1 : c = nI i := e1
      subst e1
      refine Or.inr ⟨(nI (i + 1), upd v i (g i)), ?_, rfl, ?_⟩
      · show q_X5_copy_L18 _ _ _ _ (k + 1) (nI i) v = q_X5_copy_L18 _ _ _ _ k (nI (i + 1)) _
        rw [q_X5_copy_L18, if_neg (nI_ge hi (by omega)), atI (by omega) (by omega), chI (by omega) (by omega), nI_1]
      · intro t
        have e2 : ∀ t, v t = if t < i then g t else f t := e2
        show upd v i (g i) t = _
        by_cases e : t = i
        · subst e; rw [upd_eq, if_pos (by omega)]
        · rw [upd_ne e, e2]
          by_cases c : t < i
          · rw [if_pos c, if_pos (by omega)]
          · rw [if_neg c, if_neg (by omega)])
    10000 0 (nI 0, f) ⟨rfl, fun t => by rw [if_neg (by omega)]⟩ (Nat.zero_le _) (by omega)
  refine ⟨u.2, ?_, hu2⟩
  unfold q_X5_copy
  have hm : (if nI m0 < nI n then nI m0 else nI n) = nI n := if_neg (nI_nlt hn (by omega))
  have hu' : q_X5_copy_L18 (nI n) m0 m1 g 10000 0 f = some u := hu
  rw [hm, hu', Option.bind_some]
theorem cutC0 {n w st m : Nat} {B : Nat → Nat} {f ae : Nat → Int32} (h1 : 1 ≤ w) (h8 : w ≤ 8) (hst : 2 ≤ st) (hst2 : st ≤ 64) (hn : n ≤ m) (hn2 : n ≤ 65) (hm : m ≤ 100) (hB : ∀ k, k < n → B k < 256 ∧ f k = nI (B k)) : ∃ r, q_X0_cut_L16 (nI w) (nI st) (nI n) m f 10000 (nI 0) (nI 0) ae = some r ∧ r.2.1 = nI (ct B w st n n).length ∧ ∀ j, j < (ct B w st n n).length → r.2.2 j = nI ((ct B w st n n).getD j 0) := by
  obtain ⟨r, hr, g1, g2⟩ := loop_inv (F := fun k (x : Int32 × Int32 × (Nat → Int32)) => q_X0_cut_L16 (nI w) (nI st) (nI n) m f k x.1 x.2.1 x.2.2)
    (fun i x => x.1 = nI i ∧ x.2.1 = nI (ct B w st n i).length ∧ ∀ j, j < (ct B w st n i).length → x.2.2 j = nI ((ct B w st n i).getD j 0))
    (fun r => r.2.1 = nI (ct B w st n n).length ∧ ∀ j, j < (ct B w st n n).length → r.2.2 j = nI ((ct B w st n n).getD j 0)) n
    (fun k x h => by
      obtain ⟨l, c, v⟩ := x
      obtain ⟨e1, e2, e3⟩ := h
      have e1 : l = nI n := e1
      subst e1
      refine ⟨_, ?_, e2, e3⟩
      show q_X0_cut_L16 _ _ _ _ _ (k + 1) (nI n) c v = _
      rw [q_X0_cut_L16, t_X5_size, if_pos (nI_le (Nat.le_refl n) (by omega))])
    (fun k i x hi h => by
      obtain ⟨l, c, v⟩ := x
      obtain ⟨e1, e2, e3⟩ := h
      have e1 : l = nI i := e1
      have e2 : c = nI (ct B w st n i).length := e2
      subst e1; subst e2
      have hl := ct_len B w st n i
      have e3 : ∀ j, j < (ct B w st n i).length → v j = nI ((ct B w st n i).getD j 0) := e3
      have up : cuB B w st n i = true → q_X0_cut_L16 (nI w) (nI st) (nI n) m f (k + 1) (nI i) (nI (ct B w st n i).length) v = q_X0_cut_L16 (nI w) (nI st) (nI n) m f k (nI (i + 1)) (nI ((ct B w st n i).length + 1)) (upd v (ct B w st n i).length (nI (i + 1))) → (∃ r, q_X0_cut_L16 (nI w) (nI st) (nI n) m f (k + 1) (nI i) (nI (ct B w st n i).length) v = some r ∧ (r.2.1 = nI (ct B w st n n).length ∧ ∀ j, j < (ct B w st n n).length → r.2.2 j = nI ((ct B w st n n).getD j 0))) ∨ ∃ s' : Int32 × Int32 × (Nat → Int32), q_X0_cut_L16 (nI w) (nI st) (nI n) m f (k + 1) (nI i) (nI (ct B w st n i).length) v = q_X0_cut_L16 (nI w) (nI st) (nI n) m f k s'.1 s'.2.1 s'.2.2 ∧ (s'.1 = nI (i + 1) ∧ s'.2.1 = nI (ct B w st n (i + 1)).length ∧ ∀ j, j < (ct B w st n (i + 1)).length → s'.2.2 j = nI ((ct B w st n (i + 1)).getD j 0)) := by
        intro hc he
        have ec : ct B w st n (i + 1) = ct B w st n i ++ [i + 1] := by show (if _ then _ else _) = _; rw [if_pos hc]
        refine Or.inr ⟨(_, _, _), he, rfl, ?_, ?_⟩
        · rw [ec, List.length_append]; rfl
        · rw [ec]; exact ends_app e3
      show _ ∨ _
      by_cases hc : (decide (w ≤ i + 1) && (rV B w i % 65521 % st == 0)) = true
      · refine up (by unfold cuB; rw [hc]; rfl) ?_
        rw [q_X0_cut_L16, t_X5_size, if_neg (nI_ge hi (by omega)), isCutC h1 h8 hst hst2 (by omega) hm (fun k hk => hB k (by omega)), Option.bind_some, if_pos hc, ite10, if_neg (nI_ge (by omega) (by omega)), if_pos (xinI (by omega) (by omega)), nI_1, nI_1, nI_clamp (by omega)]
      · by_cases hn1 : i + 1 = n
        · refine up (by unfold cuB; rw [show (i + 1 == n) = true from beq_iff_eq.mpr hn1, Bool.or_true]) ?_
          rw [q_X0_cut_L16, t_X5_size, if_neg (nI_ge hi (by omega)), isCutC h1 h8 hst hst2 (by omega) hm (fun k hk => hB k (by omega)), Option.bind_some, if_neg hc, ite00, nI_pred' (by omega), show n - 1 = i by omega, if_neg (show ¬ ¬ nI i = nI i from fun h => h rfl), if_neg (nI_ge (by omega) (by omega)), if_pos (xinI (by omega) (by omega)), nI_1, nI_1, nI_clamp (by omega)]
        · have ec : ct B w st n (i + 1) = ct B w st n i := by
            show (if _ then _ else _) = _
            rw [if_neg]
            unfold cuB
            rw [Bool.or_eq_true, not_or]
            exact ⟨hc, by rw [beq_iff_eq]; exact hn1⟩
          refine Or.inr ⟨(nI (i + 1), nI (ct B w st n i).length, v), ?_, rfl, by rw [ec], by rw [ec]; exact e3⟩
          show q_X0_cut_L16 _ _ _ _ _ (k + 1) (nI i) _ v = q_X0_cut_L16 _ _ _ _ _ k (nI (i + 1)) _ v
          rw [q_X0_cut_L16, t_X5_size, if_neg (nI_ge hi (by omega)), isCutC h1 h8 hst hst2 (by omega) hm (fun k hk => hB k (by omega)), Option.bind_some, if_neg hc, ite00, nI_pred' (by omega), if_pos (ne_of_nI (by omega) (by omega) (by omega)), nI_1])
    10000 0 (nI 0, nI 0, ae) ⟨rfl, rfl, fun j hj => absurd hj (Nat.not_lt_zero j)⟩ (Nat.zero_le _) (by omega)
  exact ⟨r, hr, g1, g2⟩
theorem cutC {n w st m : Nat} {B : Nat → Nat} {h f ae : Nat → Int32} (h1 : 1 ≤ w) (h8 : w ≤ 8) (hst : 2 ≤ st) (hst2 : st ≤ 64) (hn : n ≤ m) (hn2 : n ≤ 65) (hm : m ≤ 100) (hB : ∀ k, k < n → B k < 256 ∧ f k = nI (B k)) : ∃ g e, q_X0_cut (nI w) (nI st) (nI n) 65 h m f ae = some (nI (ct B w st n n).length, nI n, g, e) ∧ (∀ k, k < n → g k = nI (B k)) ∧ ∀ j, j < (ct B w st n n).length → e j = nI ((ct B w st n n).getD j 0) := by
  obtain ⟨g, e1, e2⟩ := copyC (n := n) (m0 := 65) (m1 := m) (f := h) (g := f) hn2 hn (by omega) (by omega)
  have hg : ∀ k, k < n → g k = nI (B k) := fun k hk => by rw [e2 k, if_pos hk]; exact (hB k hk).2
  obtain ⟨r, r1, r2, r3⟩ := cutC0 (m := 65) (f := g) (ae := ae) h1 h8 hst hst2 hn2 hn2 (by omega) (fun k hk => ⟨(hB k hk).1, hg k hk⟩)
  refine ⟨g, r.2.2, ?_, hg, r3⟩
  unfold q_X0_cut
  have r1' : q_X0_cut_L16 (nI w) (nI st) (nI n) 65 g 10000 0 0 ae = some r := r1
  rw [e1, Option.bind_some]
  show (q_X0_cut_L16 (nI w) (nI st) (nI n) 65 g 10000 0 0 ae).bind _ = _
  rw [r1', Option.bind_some, r2]

/-! The chunks of the reference; the calls rolling, chunks, chunkEnd. -/
theorem cutM0 {n w st : Nat} {B : Nat → Nat} {a59 a60 a49 a51 : Nat → Int32} {cx : Int32} (h1 : 1 ≤ w) (h8 : w ≤ 8) (hst : 2 ≤ st) (hst2 : st ≤ 64) (hn : n ≤ 64) (hB : ∀ k, k < n → B k < 256 ∧ a49 k = nI (B k)) : ∃ e, q_X12_cuts 0 (nI w) (nI st) (nI n) cx a59 a60 a49 a51 = some (nI (ct B w st n n).length, e, a60) ∧ ∀ j, j < (ct B w st n n).length → e j = nI ((ct B w st n n).getD j 0) := by
  have P : ∀ (k i : Nat) (v : Nat → Int32), i < n → (ct B w st n i).length ≤ i → q_X12_cuts_L23 0 (nI w) (nI st) (nI n) a49 a51 (k + 1) (nI (ct B w st n i).length) (nI i) v a60 = if cuB B w st n i = true then q_X12_cuts_L23 0 (nI w) (nI st) (nI n) a49 a51 k (nI ((ct B w st n i).length + 1)) (nI (i + 1)) (upd v (ct B w st n i).length (nI (i + 1))) a60 else q_X12_cuts_L23 0 (nI w) (nI st) (nI n) a49 a51 k (nI (ct B w st n i).length) (nI (i + 1)) v a60 := by
    intro k i v hi hl
    have z : ((0 : Int32) = 0) = True := by decide
    by_cases hn1 : i + 1 = n
    · have hc : cuB B w st n i = true := by unfold cuB; rw [show (i + 1 == n) = true from beq_iff_eq.mpr hn1, Bool.or_true]
      rw [if_pos hc, q_X12_cuts_L23, if_neg (nI_ge hi (by omega)), nI_pred' (by omega), show n - 1 = i by omega, if_pos rfl, ite10, if_pos rfl, if_pos (xinI (by omega) (by omega)), nI_clamp (by omega), nI_1, nI_1]
    · have c1 : ¬ nI i = nI (n - 1) := ne_of_nI (by omega) (by omega) (by omega)
      by_cases hw : i + 1 < w
      · have hc : ¬ cuB B w st n i = true := by
          unfold cuB
          rw [decide_eq_false (show ¬ w ≤ i + 1 by omega), Bool.false_and, Bool.false_or, beq_iff_eq]; exact hn1
        rw [if_neg hc, q_X12_cuts_L23, if_neg (nI_ge hi (by omega)), nI_pred' (by omega), if_neg c1, nI_1, if_pos (nI_lt hw (by omega)), ite00]
      · have q := Nat.mod_lt (rV B w i) (show 0 < 65521 by omega)
        have q2 := Nat.mod_lt (rV B w i % 65521) (show 0 < st by omega)
        rw [q_X12_cuts_L23, if_neg (nI_ge hi (by omega)), nI_pred' (by omega), if_neg c1, nI_1, if_neg (nI_nlt (by omega) (by omega)), rollM (f := a49) (m := 64) (B := B) (Or.inl ⟨rfl, rfl, rfl⟩) h1 h8 (by omega) (by omega) (fun k hk => hB k (by omega)), Option.bind_some, if_neg (nI_ne0 (by omega) (by omega)), nI_mod (by omega) (by omega) (by omega)]
        by_cases hz : rV B w i % 65521 % st = 0
        · have hc : cuB B w st n i = true := by
            unfold cuB
            rw [decide_eq_true (show w ≤ i + 1 by omega), Bool.true_and, show (rV B w i % 65521 % st == 0) = true from beq_iff_eq.mpr hz, Bool.true_or]
          rw [if_pos hc, hz, if_neg (show ¬ ¬ nI 0 = 0 from fun h => h rfl), ite10, if_pos rfl, if_pos (xinI (by omega) (by omega)), nI_clamp (by omega), nI_1]
        · have hc : ¬ cuB B w st n i = true := by
            unfold cuB
            rw [Bool.or_eq_true, not_or, beq_iff_eq, Bool.and_eq_true, not_and, beq_iff_eq]
            exact ⟨fun _ => hz, hn1⟩
          rw [if_neg hc, if_pos (nI_ne0 (by omega) (by omega)), ite00]
  obtain ⟨r, hr, g1, g2, g3⟩ := loop_inv (F := fun k (x : Int32 × Int32 × (Nat → Int32) × (Nat → Int32)) => q_X12_cuts_L23 0 (nI w) (nI st) (nI n) a49 a51 k x.1 x.2.1 x.2.2.1 x.2.2.2)
    (fun i x => x.1 = nI (ct B w st n i).length ∧ x.2.1 = nI i ∧ x.2.2.2 = a60 ∧ ∀ j, j < (ct B w st n i).length → x.2.2.1 j = nI ((ct B w st n i).getD j 0))
    (fun r => r.1 = nI (ct B w st n n).length ∧ r.2.2.2 = a60 ∧ ∀ j, j < (ct B w st n n).length → r.2.2.1 j = nI ((ct B w st n n).getD j 0)) n
    (fun k x h => by
      obtain ⟨c, l, u, v⟩ := x
      obtain ⟨e1, e2, e3, e4⟩ := h
      have e2 : l = nI n := e2
      subst e2
      refine ⟨_, ?_, e1, e3, e4⟩
      show q_X12_cuts_L23 _ _ _ _ _ _ (k + 1) c (nI n) u v = _
      rw [q_X12_cuts_L23, if_pos (nI_le (Nat.le_refl n) (by omega))])
    (fun k i x hi h => by
      obtain ⟨c, l, u, v⟩ := x
      obtain ⟨e1, e2, e3, e4⟩ := h
      have e1 : c = nI (ct B w st n i).length := e1
      have e2 : l = nI i := e2
      have e3 : v = a60 := e3
      subst e1; subst e2; subst e3
      have hl := ct_len B w st n i
      have hP := P k i u hi hl
      have e4 : ∀ j, j < (ct B w st n i).length → u j = nI ((ct B w st n i).getD j 0) := e4
      by_cases hc : cuB B w st n i = true
      · rw [if_pos hc] at hP
        have ec : ct B w st n (i + 1) = ct B w st n i ++ [i + 1] := by show (if _ then _ else _) = _; rw [if_pos hc]
        refine Or.inr ⟨(nI ((ct B w st n i).length + 1), nI (i + 1), upd u (ct B w st n i).length (nI (i + 1)), v), hP, ?_, rfl, rfl, ?_⟩
        · rw [ec, List.length_append]; rfl
        · rw [ec]; exact ends_app e4
      · rw [if_neg hc] at hP
        have ec : ct B w st n (i + 1) = ct B w st n i := by show (if _ then _ else _) = _; rw [if_neg hc]
        refine Or.inr ⟨(nI (ct B w st n i).length, nI (i + 1), u, v), hP, by rw [ec], rfl, rfl, ?_⟩
        rw [ec]; exact e4)
    10000 0 (nI 0, nI 0, a59, a60) ⟨rfl, rfl, rfl, fun j hj => absurd hj (Nat.not_lt_zero j)⟩ (Nat.zero_le _) (by omega)
  refine ⟨r.2.2.1, ?_, g3⟩
  unfold q_X12_cuts
  have hr' : q_X12_cuts_L23 0 (nI w) (nI st) (nI n) a49 a51 10000 0 0 a59 a60 = some r := hr
  rw [if_pos rfl, hr', Option.bind_some, g1, g2]
theorem cutM1 {n w st : Nat} {B : Nat → Nat} {a59 a60 a49 a51 : Nat → Int32} {cx : Int32} (h1 : 1 ≤ w) (h8 : w ≤ 8) (hst : 2 ≤ st) (hst2 : st ≤ 64) (hn : n ≤ 65) (hB : ∀ k, k < n → B k < 256 ∧ a51 k = nI (B k)) : ∃ e, q_X12_cuts 1 (nI w) (nI st) cx (nI n) a59 a60 a49 a51 = some (nI (ct B w st n n).length, a59, e) ∧ ∀ j, j < (ct B w st n n).length → e j = nI ((ct B w st n n).getD j 0) := by
  have P : ∀ (k i : Nat) (v : Nat → Int32), i < n → (ct B w st n i).length ≤ i → q_X12_cuts_L23 1 (nI w) (nI st) (nI n) a49 a51 (k + 1) (nI (ct B w st n i).length) (nI i) a59 v = if cuB B w st n i = true then q_X12_cuts_L23 1 (nI w) (nI st) (nI n) a49 a51 k (nI ((ct B w st n i).length + 1)) (nI (i + 1)) a59 (upd v (ct B w st n i).length (nI (i + 1))) else q_X12_cuts_L23 1 (nI w) (nI st) (nI n) a49 a51 k (nI (ct B w st n i).length) (nI (i + 1)) a59 v := by
    intro k i v hi hl
    have z : ((1 : Int32) = 0) = False := by decide
    by_cases hn1 : i + 1 = n
    · have hc : cuB B w st n i = true := by unfold cuB; rw [show (i + 1 == n) = true from beq_iff_eq.mpr hn1, Bool.or_true]
      rw [if_pos hc, q_X12_cuts_L23, if_neg (nI_ge hi (by omega)), nI_pred' (by omega), show n - 1 = i by omega, if_pos rfl, ite10, if_neg (show ¬ (1 : Int32) = 0 by decide), if_pos (xinI (by omega) (by omega)), nI_clamp (by omega), nI_1, nI_1]
    · have c1 : ¬ nI i = nI (n - 1) := ne_of_nI (by omega) (by omega) (by omega)
      by_cases hw : i + 1 < w
      · have hc : ¬ cuB B w st n i = true := by
          unfold cuB
          rw [decide_eq_false (show ¬ w ≤ i + 1 by omega), Bool.false_and, Bool.false_or, beq_iff_eq]; exact hn1
        rw [if_neg hc, q_X12_cuts_L23, if_neg (nI_ge hi (by omega)), nI_pred' (by omega), if_neg c1, nI_1, if_pos (nI_lt hw (by omega)), ite00]
      · have q := Nat.mod_lt (rV B w i) (show 0 < 65521 by omega)
        have q2 := Nat.mod_lt (rV B w i % 65521) (show 0 < st by omega)
        rw [q_X12_cuts_L23, if_neg (nI_ge hi (by omega)), nI_pred' (by omega), if_neg c1, nI_1, if_neg (nI_nlt (by omega) (by omega)), rollM (f := a51) (m := 80) (B := B) (Or.inr ⟨rfl, rfl, rfl⟩) h1 h8 (by omega) (by omega) (fun k hk => hB k (by omega)), Option.bind_some, if_neg (nI_ne0 (by omega) (by omega)), nI_mod (by omega) (by omega) (by omega)]
        by_cases hz : rV B w i % 65521 % st = 0
        · have hc : cuB B w st n i = true := by
            unfold cuB
            rw [decide_eq_true (show w ≤ i + 1 by omega), Bool.true_and, show (rV B w i % 65521 % st == 0) = true from beq_iff_eq.mpr hz, Bool.true_or]
          rw [if_pos hc, hz, if_neg (show ¬ ¬ nI 0 = 0 from fun h => h rfl), ite10, if_neg (show ¬ (1 : Int32) = 0 by decide), if_pos (xinI (by omega) (by omega)), nI_clamp (by omega), nI_1]
        · have hc : ¬ cuB B w st n i = true := by
            unfold cuB
            rw [Bool.or_eq_true, not_or, beq_iff_eq, Bool.and_eq_true, not_and, beq_iff_eq]
            exact ⟨fun _ => hz, hn1⟩
          rw [if_neg hc, if_pos (nI_ne0 (by omega) (by omega)), ite00]
  obtain ⟨r, hr, g1, g2, g3⟩ := loop_inv (F := fun k (x : Int32 × Int32 × (Nat → Int32) × (Nat → Int32)) => q_X12_cuts_L23 1 (nI w) (nI st) (nI n) a49 a51 k x.1 x.2.1 x.2.2.1 x.2.2.2)
    (fun i x => x.1 = nI (ct B w st n i).length ∧ x.2.1 = nI i ∧ x.2.2.1 = a59 ∧ ∀ j, j < (ct B w st n i).length → x.2.2.2 j = nI ((ct B w st n i).getD j 0))
    (fun r => r.1 = nI (ct B w st n n).length ∧ r.2.2.1 = a59 ∧ ∀ j, j < (ct B w st n n).length → r.2.2.2 j = nI ((ct B w st n n).getD j 0)) n
    (fun k x h => by
      obtain ⟨c, l, u, v⟩ := x
      obtain ⟨e1, e2, e3, e4⟩ := h
      have e2 : l = nI n := e2
      subst e2
      refine ⟨_, ?_, e1, e3, e4⟩
      show q_X12_cuts_L23 _ _ _ _ _ _ (k + 1) c (nI n) u v = _
      rw [q_X12_cuts_L23, if_pos (nI_le (Nat.le_refl n) (by omega))])
    (fun k i x hi h => by
      obtain ⟨c, l, u, v⟩ := x
      obtain ⟨e1, e2, e3, e4⟩ := h
      have e1 : c = nI (ct B w st n i).length := e1
      have e2 : l = nI i := e2
      have e3 : u = a59 := e3
      subst e1; subst e2; subst e3
      have hl := ct_len B w st n i
      have hP := P k i v hi hl
      have e4 : ∀ j, j < (ct B w st n i).length → v j = nI ((ct B w st n i).getD j 0) := e4
      by_cases hc : cuB B w st n i = true
      · rw [if_pos hc] at hP
        have ec : ct B w st n (i + 1) = ct B w st n i ++ [i + 1] := by show (if _ then _ else _) = _; rw [if_pos hc]
        refine Or.inr ⟨(nI ((ct B w st n i).length + 1), nI (i + 1), u, upd v (ct B w st n i).length (nI (i + 1))), hP, ?_, rfl, rfl, ?_⟩
        · rw [ec, List.length_append]; rfl
        · rw [ec]; exact ends_app e4
      · rw [if_neg hc] at hP
        have ec : ct B w st n (i + 1) = ct B w st n i := by show (if _ then _ else _) = _; rw [if_neg hc]
        refine Or.inr ⟨(nI (ct B w st n i).length, nI (i + 1), u, v), hP, by rw [ec], rfl, rfl, ?_⟩
        rw [ec]; exact e4)
    10000 0 (nI 0, nI 0, a59, a60) ⟨rfl, rfl, rfl, fun j hj => absurd hj (Nat.not_lt_zero j)⟩ (Nat.zero_le _) (by omega)
  refine ⟨r.2.2.2, ?_, g3⟩
  unfold q_X12_cuts
  have hr' : q_X12_cuts_L23 1 (nI w) (nI st) (nI n) a49 a51 10000 0 0 a59 a60 = some r := hr
  rw [if_neg (show ¬ (1 : Int32) = 0 by decide), hr', Option.bind_some, g1, g2]
theorem winT {w : Nat} (h1 : 1 ≤ w) (h8 : w ≤ 8) : q_X11_requireWindow (nI w) = some (.inr (), ()) := by
  unfold q_X11_requireWindow
  rw [if_neg (show ¬ nI w < 1 from nI_nlt (b := 1) h1 (by omega)), if_pos (show nI w ≤ 8 from nI_le (b := 8) h8 (by decide))]
theorem winF {p : Int32} (h : p.toInt < 1 ∨ (9 : Int) ≤ p.toInt) : q_X11_requireWindow p = some (.inl 0, ()) := by
  unfold q_X11_requireWindow
  by_cases c : p < 1
  · rw [if_pos c]
  · rw [if_neg c]
    rw [ltI, show (1 : Int32).toInt = 1 from rfl] at c
    rw [if_neg (by rw [leI, show (8 : Int32).toInt = 8 from rfl]; omega)]
theorem stpT {w : Nat} (h1 : 2 ≤ w) (h8 : w ≤ 64) : q_X11_requireStep (nI w) = some (.inr (), ()) := by
  unfold q_X11_requireStep
  rw [if_neg (show ¬ nI w < 2 from nI_nlt (b := 2) h1 (by omega)), if_pos (show nI w ≤ 64 from nI_le (b := 64) h8 (by decide))]
theorem stpF {p : Int32} (h : p.toInt < 2 ∨ (65 : Int) ≤ p.toInt) : q_X11_requireStep p = some (.inl 0, ()) := by
  unfold q_X11_requireStep
  by_cases c : p < 2
  · rw [if_pos c]
  · rw [if_neg c]
    rw [ltI, show (2 : Int32).toInt = 2 from rfl] at c
    rw [if_neg (by rw [leI, show (64 : Int32).toInt = 64 from rfl]; omega)]
theorem iwT {w : Nat} (h1 : 1 ≤ w) (h8 : w ≤ 8) : t_X12_in (nI w).toInt64 1 8 = 1 := in_T (by rw [tl, nI_toInt (by omega)]; show (1 : Int) ≤ _; omega) (by rw [tl, nI_toInt (by omega)]; show _ ≤ (8 : Int); omega)
theorem iwF {p : Int32} (h : p.toInt < 1 ∨ (9 : Int) ≤ p.toInt) : t_X12_in p.toInt64 1 8 = 0 := in_F (by rw [tl]; show _ < (1 : Int) ∨ (8 : Int) < _; omega)
theorem isT {w : Nat} (h1 : 2 ≤ w) (h8 : w ≤ 64) : t_X12_in (nI w).toInt64 2 64 = 1 := in_T (by rw [tl, nI_toInt (by omega)]; show (2 : Int) ≤ _; omega) (by rw [tl, nI_toInt (by omega)]; show _ ≤ (64 : Int); omega)
theorem isF {p : Int32} (h : p.toInt < 2 ∨ (65 : Int) ≤ p.toInt) : t_X12_in p.toInt64 2 64 = 0 := in_F (by rw [tl]; show _ < (2 : Int) ∨ (64 : Int) < _; omega)
theorem cls2 (p : Int32) {a b : Nat} (hb : b < 2147483647) : (∃ k, a ≤ k ∧ k ≤ b ∧ p = nI k) ∨ (p.toInt < a ∨ ((b + 1 : Nat) : Int) ≤ p.toInt) := by
  rcases cls p (n := b + 1) (by omega) with ⟨k, hk, rfl⟩ | h
  · by_cases c : a ≤ k
    · exact Or.inl ⟨k, c, by omega, rfl⟩
    · refine Or.inr (Or.inl ?_)
      rw [nI_toInt (by omega)]
      omega
  · rcases h with h | h
    · exact Or.inr (Or.inl (by omega))
    · exact Or.inr (Or.inr h)
theorem M_35 : MS_35 := by
  intro S l4 c1_1 a2 a66 c48_17 a49 a51 c3_1 c3_2 c4_0 a5 a6 c48_20 a52 c8_0 c8_1 c8_2 c8_3 c8_4 c8_5 c48_24 c48_25 c48_26 c48_27 c48_28 c7_0 c7_1 c7_2 c7_3 c7_4 c7_5 a10 a11 a53 c17_1 a18 c48_21 a57 c23_4 c24_0 a25 a26 c48_22 a58 a22 x1 x2 x3 x4 x5 hB hP hK h7 hS hD hW hC
  obtain ⟨n, B, hn, rfl, rfl, hB⟩ := hB
  unfold q_case35
  generalize S.2 (l4 + (1 : Int32)).toNatClampNeg = p1
  generalize S.2 (l4 + (2 : Int32)).toNatClampNeg = p2
  have hn' : n < 2147483648 := by omega
  rcases cls p1 (n := n) (by omega) with ⟨k, hk, rfl⟩ | h
  · rcases cls2 p2 (a := 1) (b := 8) (by omega) with ⟨w, h1, h8, rfl⟩ | h2
    · by_cases hw : w ≤ k + 1
      · have e1 : q_X0_rollingSum (nI k) (nI w) 64 a2 = some (nI (rV B w k % 65521)) := rollC h1 h8 hw (by omega) (by omega) (fun j hj => ⟨(hB j (by omega)).1, (hB j (by omega)).2.1⟩)
        have e2 : q_X12_rolls 0 (nI k) (nI w) a49 a51 = some (nI (rV B w k % 65521)) := rollM (f := a49) (m := 64) (Or.inl ⟨rfl, rfl, rfl⟩) h1 h8 hw (by omega) (fun j hj => ⟨(hB j (by omega)).1, (hB j (by omega)).2.2⟩)
        simp only [x1, x2, if_true, q_L_rolling, q_X11_rolling, rpT hk hn', winT h1 h8, xbnd, nI_pred' (show 0 < w by omega), if_pos (nI_le (show w - 1 ≤ k by omega) (show k < 2 ^ 31 by omega)), e1, Option.bind_some, q_X12_rolling, isPT hk hn', ite10, iwT h1 h8, nI_1, if_pos (nI_le hw (show k + 1 < 2 ^ 31 by omega)), e2, t_X12_tells, t_X12_thrown, ite00, c0, updL_eq, lgs]
        exact ⟨_, rfl⟩
      · simp only [x1, x2, if_true, q_L_rolling, q_X11_rolling, rpT hk hn', winT h1 h8, xbnd, nI_pred' (show 0 < w by omega), if_neg (nI_ge (show k < w - 1 by omega) (show w - 1 < 2 ^ 31 by omega)), Option.bind_some, q_X12_rolling, isPT hk hn', ite10, iwT h1 h8, nI_1, if_neg (nI_ge (show k + 1 < w by omega) (show w < 2 ^ 31 by omega)), t_X12_fails, t_X12_thrown]
        exact ⟨_, rfl⟩
    · simp only [x1, x2, if_true, q_L_rolling, q_X11_rolling, rpT hk hn', winF h2, xbnd, Option.bind_some, q_X12_rolling, isPT hk hn', ite10, ite00, iwF h2, t_X12_fails, t_X12_thrown]
      exact ⟨_, rfl⟩
  · simp only [x1, x2, if_true, q_L_rolling, q_X11_rolling, rpF h hn', xbnd, Option.bind_some, q_X12_rolling, isPF h hn', ite10, ite00, t_X12_fails, t_X12_thrown]
    exact ⟨_, rfl⟩
theorem M_36 : MS_36 := by
  intro S l4 c35_3 c36_1 c1_1 a37 a2 a38 a66 c48_17 c48_19 a59 a60 a49 a51 c3_1 c3_2 c4_0 a5 a6 c48_20 a52 c8_0 c8_1 c8_2 c8_3 c8_4 c8_5 c48_24 c48_25 c48_26 c48_27 c48_28 c7_0 c7_1 c7_2 c7_3 c7_4 c7_5 a10 a11 a53 c17_1 a18 c48_21 a57 c23_4 c24_0 a25 a26 c48_22 a58 a22 x1 x2 x3 x4 x5 hB hP hK h7 hS hD hW hC
  obtain ⟨n, B, hn, rfl, rfl, hB⟩ := hB
  unfold q_case36
  generalize S.2 (l4 + (1 : Int32)).toNatClampNeg = p1
  generalize S.2 (l4 + (2 : Int32)).toNatClampNeg = p2
  rcases cls2 p1 (a := 1) (b := 8) (by omega) with ⟨w, h1, h8, rfl⟩ | h
  · rcases cls2 p2 (a := 2) (b := 64) (by omega) with ⟨st, h2, h64, rfl⟩ | h2
    · obtain ⟨g, e, e1, eg, e2⟩ := cutC (m := 64) (h := a37) (ae := a38) h1 h8 h2 h64 hn (by omega) (by omega) (fun j hj => ⟨(hB j hj).1, (hB j hj).2.1⟩)
      obtain ⟨u, u1, u2⟩ := cutM0 (a59 := a59) (a60 := a60) (a51 := a51) (cx := c48_19) h1 h8 h2 h64 hn (fun j hj => ⟨(hB j hj).1, (hB j hj).2.2⟩)
      simp only [x1, x2, if_true, q_L_chunks, q_X11_chunks, winT h1 h8, stpT h2 h64, xbnd, e1, Option.bind_some, t_X0_count, q_X12_chunks, t_X12_areSizes, iwT h1 h8, isT h2 h64, ite1e, u1, t_X12_tells, t_X12_thrown, ite00, c0, updL_eq, lgs]
      exact ⟨_, rfl⟩
    · simp only [x1, x2, if_true, q_L_chunks, q_X11_chunks, winT h1 h8, stpF h2, xbnd, Option.bind_some, q_X12_chunks, t_X12_areSizes, iwT h1 h8, isF h2, ite1e, ite0e, ite10, t_X12_fails, t_X12_thrown]
      exact ⟨_, rfl⟩
  · simp only [x1, x2, if_true, q_L_chunks, q_X11_chunks, winF h, xbnd, Option.bind_some, q_X12_chunks, t_X12_areSizes, iwF h, ite0e, ite10, t_X12_fails, t_X12_thrown]
    exact ⟨_, rfl⟩
theorem M_37 : MS_37 := by
  intro S l4 c35_3 c36_1 c1_1 a37 a2 a38 a66 c48_17 c48_19 a59 a60 a49 a51 c3_1 c3_2 c4_0 a5 a6 c48_20 a52 c8_0 c8_1 c8_2 c8_3 c8_4 c8_5 c48_24 c48_25 c48_26 c48_27 c48_28 c7_0 c7_1 c7_2 c7_3 c7_4 c7_5 a10 a11 a53 c17_1 a18 c48_21 a57 c23_4 c24_0 a25 a26 c48_22 a58 a22 x1 x2 x3 x4 x5 hB hP hK h7 hS hD hW hC
  obtain ⟨n, B, hn, rfl, rfl, hB⟩ := hB
  unfold q_case37
  generalize S.2 (l4 + (1 : Int32)).toNatClampNeg = p1
  generalize S.2 (l4 + (2 : Int32)).toNatClampNeg = p2
  generalize S.2 (l4 + (3 : Int32)).toNatClampNeg = p3
  rcases cls2 p1 (a := 1) (b := 8) (by omega) with ⟨w, h1, h8, rfl⟩ | h
  · rcases cls2 p2 (a := 2) (b := 64) (by omega) with ⟨st, h2, h64, rfl⟩ | h2
    · obtain ⟨g, e, e1, eg, e2⟩ := cutC (m := 64) (h := a37) (ae := a38) h1 h8 h2 h64 hn (by omega) (by omega) (fun j hj => ⟨(hB j hj).1, (hB j hj).2.1⟩)
      obtain ⟨u, u1, u2⟩ := cutM0 (a59 := a59) (a60 := a60) (a51 := a51) (cx := c48_19) h1 h8 h2 h64 hn (fun j hj => ⟨(hB j hj).1, (hB j hj).2.2⟩)
      have hl := ct_len B w st n n
      rcases cls p3 (n := (ct B w st n n).length) (by omega) with ⟨j, hj, rfl⟩ | h3
      · have g1 : t_X12_in (nI j).toInt64 0 (nI (ct B w st n n).length - 1).toInt64 = 1 := isPT hj (by omega)
        have g2 : t_X0_endOf (nI j) e = nI ((ct B w st n n).getD j 0) := by
          unfold t_X0_endOf
          rw [if_neg (nI_pos (by omega)), if_neg (nI_ge (by omega) (by omega)), nI_clamp (by omega), e2 j hj]
        simp only [x1, x2, x3, if_true, q_L_chunkEnd, q_X11_chunkEnd, winT h1 h8, stpT h2 h64, xbnd, e1, Option.bind_some, t_X0_count, if_neg (nI_pos (show j < 2 ^ 31 by omega)), if_pos (nI_lt hj (show (ct B w st n n).length < 2 ^ 31 by omega)), g2, q_X12_chunkEnd, t_X12_areSizes, iwT h1 h8, isT h2 h64, ite1e, ite10, u1, g1, xinI (show j < 80 by omega) (by decide), nI_clamp (show j < 2 ^ 31 by omega), u2 j hj, t_X12_tells, t_X12_thrown, ite00, c0, updL_eq, lgs]
        exact ⟨_, rfl⟩
      · have g1 : t_X12_in p3.toInt64 0 (nI (ct B w st n n).length - 1).toInt64 = 0 := isPF h3 (by omega)
        have eC : q_X11_chunkEnd (nI w) (nI st) p3 c35_3 c36_1 (nI n) a37 a2 a38 = some (.inl 2, (nI (ct B w st n n).length, nI n, g, e)) := by
          unfold q_X11_chunkEnd
          rw [winT h1 h8]
          show xbnd (q_X11_requireStep _) _ _ = _
          rw [stpT h2 h64]
          show Option.bind _ _ = _
          rw [e1, Option.bind_some]
          show (if p3 < 0 then _ else if p3 < nI (ct B w st n n).length then _ else _) = _
          by_cases c : p3 < 0
          · rw [if_pos c]
          · rw [if_neg c]
            rw [ltI, i0] at c
            rw [if_neg (by rw [ltI, nI_toInt (by omega)]; omega)]
        simp only [x1, x2, x3, if_true, q_L_chunkEnd, eC, xbnd, Option.bind_some, q_X12_chunkEnd, t_X12_areSizes, iwT h1 h8, isT h2 h64, ite1e, ite0e, ite10, u1, g1, t_X12_fails, t_X12_thrown]
        exact ⟨_, rfl⟩
    · simp only [x1, x2, x3, if_true, q_L_chunkEnd, q_X11_chunkEnd, winT h1 h8, stpF h2, xbnd, Option.bind_some, q_X12_chunkEnd, t_X12_areSizes, iwT h1 h8, isF h2, ite1e, ite0e, ite10, ite00, t_X12_fails, t_X12_thrown]
      exact ⟨_, rfl⟩
  · simp only [x1, x2, x3, if_true, q_L_chunkEnd, q_X11_chunkEnd, winF h, xbnd, Option.bind_some, q_X12_chunkEnd, t_X12_areSizes, iwF h, ite0e, ite10, ite00, t_X12_fails, t_X12_thrown]
    exact ⟨_, rfl⟩

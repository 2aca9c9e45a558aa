/-! The calls on the row of bytes. -/
theorem rpT {k n : Nat} (h : k < n) (hn : n < 2147483648) : q_X11_requirePlace (nI k) (nI n) = some (.inr (), ()) := by
  unfold q_X11_requirePlace
  rw [hasT h hn, ite10]
theorem rpF {p : Int32} {n : Nat} (h : p.toInt < 0 ∨ (n : Int) ≤ p.toInt) (hn : n < 2147483648) : q_X11_requirePlace p (nI n) = some (.inl 2, ()) := by
  unfold q_X11_requirePlace
  rw [hasF h hn, ite00]
theorem rbT {v : Nat} (h : v < 256) : q_X11_requireByte (nI v) = some (.inr (), ()) := by
  unfold q_X11_requireByte
  rw [if_neg (nI_pos (by omega)), if_pos (show nI v ≤ 255 from nI_le (b := 255) (by omega) (by decide))]
theorem rbF {p : Int32} (h : p.toInt < 0 ∨ (256 : Nat) ≤ p.toInt) : q_X11_requireByte p = some (.inl 0, ()) := by
  unfold q_X11_requireByte
  by_cases h0 : p < 0
  · rw [if_pos h0]
  · rw [if_neg h0]
    rw [ltI, i0] at h0
    rw [if_neg (by rw [leI, show (255 : Int32).toInt = 255 from rfl]; omega)]
theorem ibT {v : Nat} (h : v < 256) : t_X12_in (nI v).toInt64 0 255 = 1 := in_T (by rw [tl, nI_toInt (by omega)]; show (0 : Int) ≤ _; omega) (by rw [tl, nI_toInt (by omega)]; show _ ≤ (255 : Int); omega)
theorem ibF {p : Int32} (h : p.toInt < 0 ∨ (256 : Nat) ≤ p.toInt) : t_X12_in p.toInt64 0 255 = 0 := in_F (by rw [tl]; show _ < (0 : Int) ∨ (255 : Int) < _; omega)
theorem poeT {k n : Nat} (h : k < n + 1) (hn : n < 2147483647) : q_X11_requirePlaceOrEnd (nI k) (nI n) = some (.inr (), ()) := by
  unfold q_X11_requirePlaceOrEnd t_X5_size
  rw [if_neg (nI_pos (by omega)), if_pos (nI_le (by omega) (by omega))]
theorem poeF {p : Int32} {n : Nat} (h : p.toInt < 0 ∨ ((n + 1 : Nat) : Int) ≤ p.toInt) (hn : n < 2147483647) : q_X11_requirePlaceOrEnd p (nI n) = some (.inl 2, ()) := by
  unfold q_X11_requirePlaceOrEnd t_X5_size
  by_cases h0 : p < 0
  · rw [if_pos h0]
  · rw [if_neg h0]
    rw [ltI, i0] at h0
    rw [if_neg (by rw [leI, nI_toInt (by omega)]; omega)]
theorem ieT {k n : Nat} (h : k < n + 1) (hn : n < 2147483647) : t_X12_in (nI k).toInt64 0 (nI n).toInt64 = 1 := in_T (by rw [tl, nI_toInt (by omega)]; show (0 : Int) ≤ _; omega) (by rw [tl, tl, nI_toInt (by omega), nI_toInt (by omega)]; omega)
theorem ieF {p : Int32} {n : Nat} (h : p.toInt < 0 ∨ ((n + 1 : Nat) : Int) ≤ p.toInt) (hn : n < 2147483647) : t_X12_in p.toInt64 0 (nI n).toInt64 = 0 := in_F (by rw [tl, tl, nI_toInt (by omega)]; show _ < (0 : Int) ∨ _; omega)
theorem M_1 : MS_1 := by
  intro S l4 c1_1 a2 a66 c48_17 a49 c3_1 c3_2 c4_0 a5 a6 c48_20 a52 c8_0 c8_1 c8_2 c8_3 c8_4 c8_5 c48_24 c48_25 c48_26 c48_27 c48_28 c7_0 c7_1 c7_2 c7_3 c7_4 c7_5 a10 a11 a53 c17_1 a18 c48_21 a57 c23_4 c24_0 a25 a26 c48_22 a58 a22 x1 x2 x3 x4 x5 hB hP hK h7 hS hD hW hC
  obtain ⟨n, B, hn, rfl, rfl, hB⟩ := hB
  unfold q_case1
  generalize S.2 (l4 + (1 : Int32)).toNatClampNeg = p1
  rcases cls p1 (n := n) (by omega) with ⟨k, hk, rfl⟩ | h
  · obtain ⟨b1, b2, b3⟩ := hB k hk
    simp only [x1, if_true, q_L_byteAt, q_X11_byteAt, rpT hk (show n < 2147483648 by omega), ite10, xbnd, Option.bind_some, q_X12_byteAt, isPT hk (show n < 2147483648 by omega), ite1e, xinI (show k < 64 by omega) (by decide), t_X12_thrown, t_X12_tells, ite00, c0, updL_eq, atI (show k < 64 by omega) (by decide), nI_clamp (show k < 2 ^ 31 by omega), b2, b3, lgs]
    exact ⟨_, rfl⟩
  · simp only [x1, if_true, q_L_byteAt, q_X11_byteAt, rpF h (show n < 2147483648 by omega), ite00, ite10, xbnd, Option.bind_some, q_X12_byteAt, isPF h (show n < 2147483648 by omega), ite0e, t_X12_thrown, t_X12_fails]
    exact ⟨_, rfl⟩
theorem M_2 : MS_2 := by
  intro S l4 c1_1 c3_1 c3_2 c4_0 a6 a5 a2 a66 c48_17 c48_20 a52 a49 c8_0 c8_1 c8_2 c8_3 c8_4 c8_5 c48_24 c48_25 c48_26 c48_27 c48_28 c7_0 c7_1 c7_2 c7_3 c7_4 c7_5 a10 a11 a53 c17_1 a18 c48_21 a57 c23_4 c24_0 a25 a26 c48_22 a58 a22 x1 x2 x3 x4 x5 hB hP hK h7 hS hD hW hC
  have hB0 := hB
  obtain ⟨n, B, hn, rfl, rfl, hB⟩ := hB
  unfold q_case2
  generalize S.2 (l4 + (1 : Int32)).toNatClampNeg = p1
  generalize S.2 (l4 + (2 : Int32)).toNatClampNeg = p2
  have hn' : n < 2147483648 := by omega
  rcases cls p1 (n := n) (by omega) with ⟨k, hk, rfl⟩ | h
  · rcases cls p2 (n := 256) (by omega) with ⟨v, hv, rfl⟩ | h2
    · obtain ⟨b1, b2, b3⟩ := hB k hk
      obtain ⟨x, y, e1, e2, hP'⟩ := keepP hn hB hP
      simp only [x1, x2, if_true, q_L_put, q_X11_put, rpT hk hn', rbT hv, ite10, xbnd, Option.bind_some, q_X12_put, isPT hk hn', ibT hv, xinI (show k < 64 by omega) (by decide), t_X12_thrown, t_X12_tells, ite00, c0, updL_eq, atI (show k < 64 by omega) (by decide), chI (show k < 64 by omega) (by decide), nI_clamp (show k < 2 ^ 31 by omega), b2, b3, lgs, e1, e2]
      refine ⟨_, rfl, ⟨n, fun j => if j = k then v else B j, hn, rfl, rfl, fun j hj => ?_⟩, hP'⟩
      obtain ⟨d1, d2, d3⟩ := hB j hj
      dsimp only [upd]
      by_cases e : j = k
      · simp only [if_pos e]; exact ⟨hv, trivial, trivial⟩
      · simp only [if_neg e]; exact ⟨d1, d2, d3⟩
    · simp only [x1, x2, if_true, q_L_put, q_X11_put, rpT hk hn', rbF h2, ite10, ite00, xbnd, Option.bind_some, q_X12_put, isPT hk hn', ibF h2, t_X12_thrown, t_X12_fails]
      exact ⟨_, rfl, hB0, hP⟩
  · simp only [x1, x2, if_true, q_L_put, q_X11_put, rpF h hn', ite10, ite00, xbnd, Option.bind_some, q_X12_put, isPF h hn', t_X12_thrown, t_X12_fails]
    exact ⟨_, rfl, hB0, hP⟩
theorem openL {p n m : Nat} {f : Nat → Int32} (hp : p ≤ n) (hn : n < m) (hm : m < 2147483648) (h9 : n < 9999) : ∃ r : Int32 × (Nat → Int32), q_X5_openAt_L30 (nI p) m 10000 (nI n) f = some r ∧ ∀ t, r.2 t = if p < t ∧ t ≤ n then f (t - 1) else f t := by
  obtain ⟨r, hr, h1⟩ := loop_inv (F := fun k (s : Int32 × (Nat → Int32)) => q_X5_openAt_L30 (nI p) m k s.1 s.2)
    (fun i s => s.1 = nI (n - i) ∧ ∀ t, s.2 t = if n - i < t ∧ t ≤ n then f (t - 1) else f t)
    (fun r => ∀ t, r.2 t = if p < t ∧ t ≤ n then f (t - 1) else f t) (n - p)
    (fun k s h => by
      obtain ⟨l, v⟩ := s
      obtain ⟨e, h1⟩ := h
      have e : l = nI (n - (n - p)) := e
      rw [show n - (n - p) = p by omega] at e h1
      subst e
      refine ⟨_, ?_, h1⟩
      show q_X5_openAt_L30 _ _ (k + 1) (nI p) v = _
      rw [q_X5_openAt_L30, if_pos (nI_le (Nat.le_refl p) (by omega))])
    (fun k i s hi h => by
      obtain ⟨l, v⟩ := s
      obtain ⟨e, h1⟩ := h
      have e : l = nI (n - i) := e
      subst e
      refine Or.inr ⟨(nI (n - (i + 1)), upd v (n - i) (v (n - (i + 1)))), ?_, rfl, ?_⟩
      · show q_X5_openAt_L30 _ _ (k + 1) (nI (n - i)) v = q_X5_openAt_L30 _ _ k (nI (n - (i + 1))) _
        rw [q_X5_openAt_L30, if_neg (nI_ge (by omega) (by omega)), nI_dec (by omega), nI_pred' (by omega), atI (by omega) hm, chI (by omega) hm, show n - i - 1 = n - (i + 1) by omega]
      · intro t
        have h1 : ∀ t, v t = if n - i < t ∧ t ≤ n then f (t - 1) else f t := h1
        show upd v (n - i) (v (n - (i + 1))) t = _
        by_cases e : t = n - i
        · subst e
          rw [upd_eq, h1, if_neg (by omega), if_pos (by omega), show n - i - 1 = n - (i + 1) by omega]
        · rw [upd_ne e, h1]
          by_cases c : n - i < t ∧ t ≤ n
          · rw [if_pos c, if_pos (by omega)]
          · rw [if_neg c, if_neg (by omega)])
    10000 0 (nI n, f) ⟨rfl, fun t => by rw [if_neg (by omega)]⟩ (Nat.zero_le _) (by omega)
  exact ⟨r, hr, h1⟩
theorem openC {p n m : Nat} {v : Int32} {f : Nat → Int32} (hp : p ≤ n) (hn : n < m) (hm : m < 2147483648) (h9 : n < 9999) : ∃ g, q_X5_openAt (nI p) v (nI n) m f = some (nI (n + 1), g) ∧ ∀ t, g t = if t = p then v else if p < t ∧ t ≤ n then f (t - 1) else f t := by
  obtain ⟨r, hr, h1⟩ := openL (f := f) hp hn hm h9
  refine ⟨upd r.2 p v, ?_, fun t => ?_⟩
  · unfold q_X5_openAt
    rw [if_neg (nI_ge hn hm), if_neg (nI_pos (by omega)), if_pos (nI_le hp (by omega)), hr, Option.bind_some, nI_1, chI (by omega) hm]
  · by_cases e : t = p
    · subst e; rw [upd_eq, if_pos rfl]
    · rw [upd_ne e, if_neg e, h1]
theorem appendC {n m : Nat} {v : Int32} {f : Nat → Int32} (hn : n < m) (hm : m < 2147483648) (h9 : n < 9999) : q_X5_append v (nI n) m f = some (nI (n + 1), upd f n v) := by
  obtain ⟨g, h, h1⟩ := openC (v := v) (f := f) (Nat.le_refl n) hn hm h9
  unfold q_X5_append
  rw [h, Option.bind_some]
  have : g = upd f n v := by
    funext t
    rw [h1]
    by_cases e : t = n
    · subst e; rw [if_pos rfl, upd_eq]
    · rw [if_neg e, if_neg (by omega), upd_ne e]
  rw [this]
theorem insertL {p n : Nat} {f : Nat → Int32} (hp : p ≤ n) (hn : n < 64) : ∃ r : Int32 × (Nat → Int32), q_X12_insert_L62 (nI p) 10000 (nI n) f = some r ∧ ∀ t, r.2 t = if p < t ∧ t ≤ n then f (t - 1) else f t := by
  obtain ⟨r, hr, h1⟩ := loop_inv (F := fun k (s : Int32 × (Nat → Int32)) => q_X12_insert_L62 (nI p) k s.1 s.2)
    (fun i s => s.1 = nI (n - i) ∧ ∀ t, s.2 t = if n - i < t ∧ t ≤ n then f (t - 1) else f t)
    (fun r => ∀ t, r.2 t = if p < t ∧ t ≤ n then f (t - 1) else f t) (n - p)
    (fun k s h => by
      obtain ⟨l, v⟩ := s
      obtain ⟨e, h1⟩ := h
      have e : l = nI (n - (n - p)) := e
      rw [show n - (n - p) = p by omega] at e h1
      subst e
      refine ⟨_, ?_, h1⟩
      show q_X12_insert_L62 _ (k + 1) (nI p) v = _
      rw [q_X12_insert_L62, if_pos (nI_le (Nat.le_refl p) (by omega))])
    (fun k i s hi h => by
      obtain ⟨l, v⟩ := s
      obtain ⟨e, h1⟩ := h
      have e : l = nI (n - i) := e
      subst e
      refine Or.inr ⟨(nI (n - (i + 1)), upd v (n - i) (v (n - (i + 1)))), ?_, rfl, ?_⟩
      · show q_X12_insert_L62 _ (k + 1) (nI (n - i)) v = q_X12_insert_L62 _ k (nI (n - (i + 1))) _
        rw [q_X12_insert_L62, if_neg (nI_ge (by omega) (by omega)), nI_dec (by omega), nI_pred' (by omega), if_pos (xinI (by omega) (by omega)), if_pos (xinI (by omega) (by omega)), nI_clamp (by omega), nI_clamp (by omega), show n - i - 1 = n - (i + 1) by omega]
      · intro t
        have h1 : ∀ t, v t = if n - i < t ∧ t ≤ n then f (t - 1) else f t := h1
        show upd v (n - i) (v (n - (i + 1))) t = _
        by_cases e : t = n - i
        · subst e
          rw [upd_eq, h1, if_neg (by omega), if_pos (by omega), show n - i - 1 = n - (i + 1) by omega]
        · rw [upd_ne e, h1]
          by_cases c : n - i < t ∧ t ≤ n
          · rw [if_pos c, if_pos (by omega)]
          · rw [if_neg c, if_neg (by omega)])
    10000 0 (nI n, f) ⟨rfl, fun t => by rw [if_neg (by omega)]⟩ (Nat.zero_le _) (by omega)
  exact ⟨r, hr, h1⟩
theorem closeL {p n m : Nat} {f : Nat → Int32} (hp : p < n) (hn : n ≤ m) (hm : m < 2147483648) (h9 : n < 9999) : ∃ r : Int32 × (Nat → Int32), q_X5_closeAt_L11 (nI n) m 10000 (nI p) f = some r ∧ ∀ t, r.2 t = if p ≤ t ∧ t < n - 1 then f (t + 1) else f t := by
  obtain ⟨r, hr, h1⟩ := loop_inv (F := fun k (s : Int32 × (Nat → Int32)) => q_X5_closeAt_L11 (nI n) m k s.1 s.2)
    (fun i s => s.1 = nI (p + i) ∧ ∀ t, s.2 t = if p ≤ t ∧ t < p + i then f (t + 1) else f t)
    (fun r => ∀ t, r.2 t = if p ≤ t ∧ t < n - 1 then f (t + 1) else f t) (n - 1 - p)
    (fun k s h => by
      obtain ⟨l, v⟩ := s
      obtain ⟨e, h1⟩ := h
      have e : l = nI (p + (n - 1 - p)) := e
      rw [show p + (n - 1 - p) = n - 1 by omega] at e h1
      subst e
      refine ⟨_, ?_, h1⟩
      show q_X5_closeAt_L11 _ _ (k + 1) (nI (n - 1)) v = _
      rw [q_X5_closeAt_L11, nI_pred' (by omega), if_pos (nI_le (Nat.le_refl _) (by omega))])
    (fun k i s hi h => by
      obtain ⟨l, v⟩ := s
      obtain ⟨e, h1⟩ := h
      have e : l = nI (p + i) := e
      subst e
      refine Or.inr ⟨(nI (p + (i + 1)), upd v (p + i) (v (p + i + 1))), ?_, rfl, ?_⟩
      · show q_X5_closeAt_L11 _ _ (k + 1) (nI (p + i)) v = q_X5_closeAt_L11 _ _ k (nI (p + (i + 1))) _
        rw [q_X5_closeAt_L11, nI_pred' (by omega), if_neg (nI_ge (by omega) (by omega)), nI_1, atI (by omega) hm, chI (by omega) hm]
        rfl
      · intro t
        have h1 : ∀ t, v t = if p ≤ t ∧ t < p + i then f (t + 1) else f t := h1
        show upd v (p + i) (v (p + i + 1)) t = _
        by_cases e : t = p + i
        · subst e
          rw [upd_eq, h1, if_neg (by omega), if_pos (by omega)]
        · rw [upd_ne e, h1]
          by_cases c : p ≤ t ∧ t < p + i
          · rw [if_pos c, if_pos (by omega)]
          · rw [if_neg c, if_neg (by omega)])
    10000 0 (nI p, f) ⟨rfl, fun t => by rw [if_neg (by omega)]⟩ (Nat.zero_le _) (by omega)
  exact ⟨r, hr, h1⟩
theorem dropL {p n : Nat} {f : Nat → Int32} (hp : p < n) (hn : n ≤ 64) : ∃ r : Int32 × (Nat → Int32), q_X12_drop_L27 (nI n) 10000 (nI p) f = some r ∧ ∀ t, r.2 t = if p ≤ t ∧ t < n - 1 then f (t + 1) else f t := by
  obtain ⟨r, hr, h1⟩ := loop_inv (F := fun k (s : Int32 × (Nat → Int32)) => q_X12_drop_L27 (nI n) k s.1 s.2)
    (fun i s => s.1 = nI (p + i) ∧ ∀ t, s.2 t = if p ≤ t ∧ t < p + i then f (t + 1) else f t)
    (fun r => ∀ t, r.2 t = if p ≤ t ∧ t < n - 1 then f (t + 1) else f t) (n - 1 - p)
    (fun k s h => by
      obtain ⟨l, v⟩ := s
      obtain ⟨e, h1⟩ := h
      have e : l = nI (p + (n - 1 - p)) := e
      rw [show p + (n - 1 - p) = n - 1 by omega] at e h1
      subst e
      refine ⟨_, ?_, h1⟩
      show q_X12_drop_L27 _ (k + 1) (nI (n - 1)) v = _
      rw [q_X12_drop_L27, nI_pred' (by omega), if_pos (nI_le (Nat.le_refl _) (by omega))])
    (fun k i s hi h => by
      obtain ⟨l, v⟩ := s
      obtain ⟨e, h1⟩ := h
      have e : l = nI (p + i) := e
      subst e
      refine Or.inr ⟨(nI (p + (i + 1)), upd v (p + i) (v (p + i + 1))), ?_, rfl, ?_⟩
      · show q_X12_drop_L27 _ (k + 1) (nI (p + i)) v = q_X12_drop_L27 _ k (nI (p + (i + 1))) _
        rw [q_X12_drop_L27, nI_pred' (by omega), if_neg (nI_ge (by omega) (by omega)), nI_1, if_pos (xinI (by omega) (by omega)), if_pos (xinI (by omega) (by omega)), nI_clamp (by omega), nI_clamp (by omega)]
        rfl
      · intro t
        have h1 : ∀ t, v t = if p ≤ t ∧ t < p + i then f (t + 1) else f t := h1
        show upd v (p + i) (v (p + i + 1)) t = _
        by_cases e : t = p + i
        · subst e
          rw [upd_eq, h1, if_neg (by omega), if_pos (by omega)]
        · rw [upd_ne e, h1]
          by_cases c : p ≤ t ∧ t < p + i
          · rw [if_pos c, if_pos (by omega)]
          · rw [if_neg c, if_neg (by omega)])
    10000 0 (nI p, f) ⟨rfl, fun t => by rw [if_neg (by omega)]⟩ (Nat.zero_le _) (by omega)
  exact ⟨r, hr, h1⟩
theorem M_3 : MS_3 := by
  intro S l4 c1_1 c3_1 c3_2 c4_0 a6 a5 a2 a66 c48_17 c48_20 a52 a49 c8_0 c8_1 c8_2 c8_3 c8_4 c8_5 c48_24 c48_25 c48_26 c48_27 c48_28 c7_0 c7_1 c7_2 c7_3 c7_4 c7_5 a10 a11 a53 c17_1 a18 c48_21 a57 c23_4 c24_0 a25 a26 c48_22 a58 a22 x1 x2 x3 x4 x5 hB hP hK h7 hS hD hW hC
  have hB0 := hB
  obtain ⟨n, B, hn, rfl, rfl, hB⟩ := hB
  unfold q_case3
  generalize S.2 (l4 + (1 : Int32)).toNatClampNeg = p1
  generalize S.2 (l4 + (2 : Int32)).toNatClampNeg = p2
  generalize S.2 (l4 + (3 : Int32)).toNatClampNeg = p3
  have hn' : n < 2147483647 := by omega
  rcases cls p1 (n := n + 1) (by omega) with ⟨k, hk, rfl⟩ | h
  · rcases cls p2 (n := 256) (by omega) with ⟨v, hv, rfl⟩ | h2
    · by_cases h64 : n = 64
      · subst h64
        simp only [x1, x2, if_true, q_L_insert, q_X11_insert, poeT hk hn', rbT hv, ite10, xbnd, Option.bind_some, q_X12_insert, ieT hk hn', ibT hv, t_X12_thrown, t_X12_fails, t_X5_size, k64, if_neg (show ¬ nI 64 < nI 64 by decide), if_neg (show ¬ ¬ nI 64 = nI 64 from fun h => h rfl)]
        exact ⟨_, rfl, hB0, hP⟩
      · obtain ⟨x, y, e1, e2, hP'⟩ := keepP hn hB hP
        obtain ⟨g1, o1, o2⟩ := openC (v := nI v) (f := a2) (show k ≤ n by omega) (show n < 64 by omega) (by decide) (by omega)
        obtain ⟨r, r1, r2⟩ := insertL (f := a49) (show k ≤ n by omega) (show n < 64 by omega)
        simp only [x1, x2, if_true, q_L_insert, q_X11_insert, poeT hk hn', rbT hv, ite10, xbnd, Option.bind_some, q_X12_insert, ieT hk hn', ibT hv, t_X12_thrown, t_X12_tells, t_X5_size, k64, if_pos (show nI n < nI 64 from nI_lt (by omega) (by omega)), if_pos (show ¬ nI n = nI 64 from ne_of_nI h64 (by omega) (by omega)), e1, e2, o1, r1, xinI (show k < 64 by omega) (by decide), nI_clamp (show k < 2 ^ 31 by omega), ite00, c0, updL_eq, nI_1, lgs]
        refine ⟨_, rfl, ⟨n + 1, fun j => if j = k then v else if k < j ∧ j ≤ n then B (j - 1) else B j, by omega, rfl, rfl, fun j hj => ?_⟩, hP'⟩
        show _ ∧ g1 j = _ ∧ upd r.2 k (nI v) j = _
        rw [o2]
        by_cases e : j = k
        · subst e; rw [upd_eq]; simp only [if_true]; exact ⟨hv, trivial, trivial⟩
        · rw [upd_ne e, r2]
          simp only [if_neg e]
          by_cases c : k < j ∧ j ≤ n
          · simp only [if_pos c]; exact hB _ (by omega)
          · simp only [if_neg c]; exact hB _ (by omega)
    · simp only [x1, x2, if_true, q_L_insert, q_X11_insert, poeT hk hn', rbF h2, ite10, ite00, xbnd, Option.bind_some, q_X12_insert, ieT hk hn', ibF h2, t_X12_thrown, t_X12_fails]
      exact ⟨_, rfl, hB0, hP⟩
  · simp only [x1, x2, if_true, q_L_insert, q_X11_insert, poeF h hn', ite10, ite00, xbnd, Option.bind_some, q_X12_insert, ieF h hn', t_X12_thrown, t_X12_fails]
    exact ⟨_, rfl, hB0, hP⟩
theorem M_4 : MS_4 := by
  intro S l4 c1_1 c3_1 c3_2 c4_0 a6 a5 a2 a66 c48_17 c48_20 a52 a49 c8_0 c8_1 c8_2 c8_3 c8_4 c8_5 c48_24 c48_25 c48_26 c48_27 c48_28 c7_0 c7_1 c7_2 c7_3 c7_4 c7_5 a10 a11 a53 c17_1 a18 c48_21 a57 c23_4 c24_0 a25 a26 c48_22 a58 a22 x1 x2 x3 x4 x5 hB hP hK h7 hS hD hW hC
  have hB0 := hB
  obtain ⟨n, B, hn, rfl, rfl, hB⟩ := hB
  unfold q_case4
  generalize S.2 (l4 + (1 : Int32)).toNatClampNeg = p1
  generalize S.2 (l4 + (2 : Int32)).toNatClampNeg = p2
  generalize S.2 (l4 + (3 : Int32)).toNatClampNeg = p3
  generalize S.2 (l4 + (4 : Int32)).toNatClampNeg = p4
  have hn' : n < 2147483648 := by omega
  rcases cls p1 (n := n) (by omega) with ⟨k, hk, rfl⟩ | h
  · obtain ⟨b1, b2, b3⟩ := hB k hk
    obtain ⟨x, y, e1, e2, hP'⟩ := keepP hn hB hP
    obtain ⟨r, r1, r2⟩ := closeL (m := 64) (f := a2) hk (by omega) (by decide) (by omega)
    obtain ⟨u, u1, u2⟩ := dropL (f := a49) hk (by omega)
    have hc : q_X5_closeAt (nI k) (nI n) 64 a2 = some (nI (n - 1), r.2) := by
      unfold q_X5_closeAt
      rw [hasT hk hn', ite10, r1, Option.bind_some, nI_pred' (by omega)]
    simp only [x1, if_true, q_L_drop, q_X11_drop, rpT hk hn', ite10, xbnd, Option.bind_some, q_X12_drop, isPT hk hn', t_X12_thrown, t_X12_tells, e1, e2, hc, u1, xinI (show k < 64 by omega) (by decide), nI_clamp (show k < 2 ^ 31 by omega), ite00, c0, updL_eq, atI (show k < 64 by omega) (by decide), b2, b3, lgs, nI_pred' (show 0 < n by omega)]
    refine ⟨_, rfl, ⟨n - 1, fun j => if k ≤ j ∧ j < n - 1 then B (j + 1) else B j, by omega, rfl, rfl, fun j hj => ?_⟩, hP'⟩
    show _ ∧ r.2 j = _ ∧ u.2 j = _
    rw [r2, u2]
    by_cases c : k ≤ j ∧ j < n - 1
    · simp only [if_pos c]; exact hB _ (by omega)
    · simp only [if_neg c]; exact hB _ (by omega)
  · simp only [x1, if_true, q_L_drop, q_X11_drop, rpF h hn', ite10, ite00, xbnd, Option.bind_some, q_X12_drop, isPF h hn', t_X12_thrown, t_X12_fails]
    exact ⟨_, rfl, hB0, hP⟩
theorem M_5 : MS_5 := by
  intro S l4 c3_1 c3_2 c4_0 c1_1 a6 a5 a2 c48_17 c48_20 a52 a49 c8_0 c8_1 c8_2 c8_3 c8_4 c8_5 c48_24 c48_25 c48_26 c48_27 c48_28 c7_0 c7_1 c7_2 c7_3 c7_4 c7_5 a10 a11 a53 c17_1 a18 c48_21 a57 c23_4 c24_0 a25 a26 c48_22 a58 a22 x1 x2 x3 x4 x5 hB hP hK h7 hS hD hW hC
  obtain ⟨n, B, hn, rfl, rfl, hB⟩ := hB
  unfold q_case5
  obtain ⟨x, y, e1, e2, hP'⟩ := keepP hn hB hP
  simp only [q_X11_wipe, q_X12_wipe, e1, e2, Option.bind_some, t_X5_size, t_X5_empty, t_X12_tells, if_true]
  exact ⟨_, rfl, ⟨0, B, by omega, rfl, rfl, fun j hj => absurd hj (Nat.not_lt_zero j)⟩, hP'⟩

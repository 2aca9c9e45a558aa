/-! The calls on the row of bytes. -/
theorem rpT {k n : Nat} (h : k < n) (hn : n < 2147483648) : q_X11_requirePlace (nI k) (nI n) = some (.inr (), ()) := by
  unfold q_X11_requirePlace
  rw [hasT h hn, ite10]
theorem rpF {p : Int32} {n : Nat} (h : p.toInt < 0 ∨ (n : Int) ≤ p.toInt) (hn : n < 2147483648) : q_X11_requirePlace p (nI n) = some (.inl 2, ()) := by
  unfold q_X11_requirePlace
  rw [hasF h hn, ite00]
theorem rbT {v : Nat} (h : v < 256) : q_X11_requireByte (nI v) = some (.inr (), ()) := by
  unfold q_X11_requireByte
  rw [if_neg (nI_pos (by omega)), if_pos (show nI v ≤ 255 from nI_le (b := 255) (by omega) (by decide))]
theorem rbF {p : Int32} (h : p.toInt < 0 ∨ (256 : Nat) ≤ p.toInt) : q_X11_requireByte p = some (.inl 0, ()) := by
  unfold q_X11_requireByte
  by_cases h0 : p < 0
  · rw [if_pos h0]
  · rw [if_neg h0]
    rw [ltI, i0] at h0
    rw [if_neg (by rw [leI, show (255 : Int32).toInt = 255 from rfl]; omega)]
theorem poeT {k n : Nat} (h : k < n + 1) (hn : n < 2147483647) : q_X11_requirePlaceOrEnd (nI k) (nI n) = some (.inr (), ()) := by
  unfold q_X11_requirePlaceOrEnd t_X5_size
  rw [if_neg (nI_pos (by omega)), if_pos (nI_le (by omega) (by omega))]
theorem poeF {p : Int32} {n : Nat} (h : p.toInt < 0 ∨ ((n + 1 : Nat) : Int) ≤ p.toInt) (hn : n < 2147483647) : q_X11_requirePlaceOrEnd p (nI n) = some (.inl 2, ()) := by
  unfold q_X11_requirePlaceOrEnd t_X5_size
  by_cases h0 : p < 0
  · rw [if_pos h0]
  · rw [if_neg h0]
    rw [ltI, i0] at h0
    rw [if_neg (by rw [leI, nI_toInt (by omega)]; omega)]
theorem openL {p n m : Nat} {f : Nat → Int32} (hp : p ≤ n) (hn : n < m) (hm : m < 2147483648) (h9 : n < 9999) : ∃ r : Int32 × (Nat → Int32), q_X5_openAt_L30 (nI p) m 10000 (nI n) f = some r ∧ ∀ t, r.2 t = if p < t ∧ t ≤ n then f (t - 1) else f t := by
  obtain ⟨r, hr, h1⟩ := loop_inv (F := fun k (s : Int32 × (Nat → Int32)) => q_X5_openAt_L30 (nI p) m k s.1 s.2)
    (fun i s => s.1 = nI (n - i) ∧ ∀ t, s.2 t = if n - i < t ∧ t ≤ n then f (t - 1) else f t)
    (fun r => ∀ t, r.2 t = if p < t ∧ t ≤ n then f (t - 1) else f t) (n - p)
    (fun k s h => by
      obtain ⟨l, v⟩ := s
      obtain ⟨e, h1⟩ := h
      have e : l = nI (n - (n - p)) := e
      rw [show n - (n - p) = p by omega] at e h1
      subst e
      refine ⟨_, ?_, h1⟩
      show q_X5_openAt_L30 _ _ (k + 1) (nI p) v = _
      rw [q_X5_openAt_L30, if_pos (nI_le (Nat.le_refl p) (by omega))])
    (fun k i s hi h => by
      obtain ⟨l, v⟩ := s
      obtain ⟨e, h1⟩ := h
      have e : l = nI (n - i) := e
      subst e
      refine Or.inr ⟨(nI (n - (i + 1)), upd v (n - i) (v (n - (i + 1)))), ?_, rfl, ?_⟩
      · show q_X5_openAt_L30 _ _ (k + 1) (nI (n - i)) v = q_X5_openAt_L30 _ _ k (nI (n - (i + 1))) _
        rw [q_X5_openAt_L30, if_neg (nI_ge (by omega) (by omega)), nI_dec (by omega), nI_pred' (by omega), atI (by omega) hm, chI (by omega) hm, show n - i - 1 = n - (i + 1) by omega]
      · intro t
        have h1 : ∀ t, v t = if n - i < t ∧ t ≤ n then f (t - 1) else f t := h1
        show upd v (n - i) (v (n - (i + 1))) t = _
        by_cases e : t = n - i
        · subst e
          rw [upd_eq, h1, if_neg (by omega), if_pos (by omega), show n - i - 1 = n - (i + 1) by omega]
        · rw [upd_ne e, h1]
          by_cases c : n - i < t ∧ t ≤ n
          · rw [if_pos c, if_pos (by omega)]
          · rw [if_neg c, if_neg (by omega)])
    10000 0 (nI n, f) ⟨rfl, fun t => by rw [if_neg (by omega)]⟩ (Nat.zero_le _) (by omega)
  exact ⟨r, hr, h1⟩
theorem openC {p n m : Nat} {v : Int32} {f : Nat → Int32} (hp : p ≤ n) (hn : n < m) (hm : m < 2147483648) (h9 : n < 9999) : ∃ g, q_X5_openAt (nI p) v (nI n) m f = some (nI (n + 1), g) ∧ ∀ t, g t = if t = p then v else if p < t ∧ t ≤ n then f (t - 1) else f t := by
  obtain ⟨r, hr, h1⟩ := openL (f := f) hp hn hm h9
  refine ⟨upd r.2 p v, ?_, fun t => ?_⟩
  · unfold q_X5_openAt
    rw [if_neg (nI_ge hn hm), if_neg (nI_pos (by omega)), if_pos (nI_le hp (by omega)), hr, Option.bind_some, nI_1, chI (by omega) hm]
  · by_cases e : t = p
    · subst e; rw [upd_eq, if_pos rfl]
    · rw [upd_ne e, if_neg e, h1]
theorem appendC {n m : Nat} {v : Int32} {f : Nat → Int32} (hn : n < m) (hm : m < 2147483648) (h9 : n < 9999) : q_X5_append v (nI n) m f = some (nI (n + 1), upd f n v) := by
  obtain ⟨g, h, h1⟩ := openC (v := v) (f := f) (Nat.le_refl n) hn hm h9
  unfold q_X5_append
  rw [h, Option.bind_some]
  have : g = upd f n v := by
    funext t
    rw [h1]
    by_cases e : t = n
    · subst e; rw [if_pos rfl, upd_eq]
    · rw [if_neg e, if_neg (by omega), upd_ne e]
  rw [this]

/-! Digits and wares. -/
def WX (n : Nat) (M : Nat → Nat) (E : Nat → Nat → Nat) (a25 a26 : Nat → Int32) : Prop := n ≤ 20 ∧ ∀ j, j < n → 1 ≤ M j ∧ M j ≤ 9 ∧ a26 j = nI (M j) ∧ ∀ k, k < M j → E j k < 10 ∧ a25 (9 * j + k) = nI (E j k)
theorem WX_A {n : Nat} {M : Nat → Nat} {E : Nat → Nat → Nat} {a25 a26 : Nat → Int32} (h : WX n M E a25 a26) : ∃ a58, WA n M E a25 a26 a58 := by
  refine ⟨fun t => if t % 10 = 0 then nI (M (t / 10)) else nI (E (t / 10) (t % 10 - 1)), h.1, fun j hj => ?_⟩
  obtain ⟨h1, h2, h3, h4⟩ := h.2 j hj
  refine ⟨h1, h2, h3, ?_, fun k hk => ?_⟩
  · show (if 10 * j % 10 = 0 then nI (M (10 * j / 10)) else _) = _
    rw [if_pos (by omega), show 10 * j / 10 = j by omega]
  · obtain ⟨g1, g2⟩ := h4 k hk
    refine ⟨g1, g2, ?_⟩
    show (if (10 * j + 1 + k) % 10 = 0 then _ else nI (E ((10 * j + 1 + k) / 10) ((10 * j + 1 + k) % 10 - 1))) = _
    rw [if_neg (by omega), show (10 * j + 1 + k) / 10 = j by omega, show (10 * j + 1 + k) % 10 - 1 = k by omega]
section WARES
variable {n d : Nat} {M : Nat → Nat} {E : Nat → Nat → Nat} {D : Nat → Nat} {a25 a26 a18 a32 a28 a30 : Nat → Int32} {c31 c29 c27 : Int32}
theorem wareNew (h : WX n M E a25 a26) (hn : n < 20) (h0 : ¬ d = 0) (h9 : d ≤ 9) (hD : ∀ k, k < d → D k < 10 ∧ a18 k = nI (D k)) (hne : ∀ j, j < n → ¬ eT (M j) (E j) d D) :
    ∃ c, q_X11_ware (nI d) (nI n) (nI 9) c31 a26 a25 a32 a18 = some (.inr (nI n), c) ∧ c.1 = nI (n + 1) ∧ WX (n + 1) (fun j => if j = n then d else M j) (fun j => if j = n then D else E j) c.2.2.2.1 c.2.2.1 := by
  obtain ⟨a58, hA⟩ := WX_A h
  have hd : d ≤ 18 := by omega
  have l9 : nI d ≤ (9 : Int32) := nI_le (b := 9) h9 (by omega)
  obtain ⟨v, c, a, e1, e2⟩ := numC (c31 := c31) (a32 := a32) hA hd hD
  have ev := sameR_u e2 (Or.inl ⟨rfl, hne⟩)
  subst ev
  obtain ⟨w, w1, w2, w3⟩ := writeW (p := n) (a6 := a26) (a5 := a25) (a2 := a18) hn h9
  refine ⟨(nI (n + 1), c, upd a26 n (nI d), w, a), ?_, rfl, by omega, fun j hj => ?_⟩
  · unfold q_X11_ware
    rw [rqdT h0 hd]
    simp only [xbnd, t_X5_size, if_pos l9, e1, Option.bind_some]
    rw [if_pos (show (-1 : Int32) < 0 by decide)]
    unfold t_X10_isFull q_X10_added
    rw [if_pos (show nI n < (20 : Int32) from nI_lt (b := 20) (by omega) (by omega)), if_pos rfl, w1, Option.bind_some, Option.bind_some, nI_1, nI_pred' (by omega)]
    rfl
  · show 1 ≤ (if j = n then d else M j) ∧ (if j = n then d else M j) ≤ 9 ∧ upd a26 n (nI d) j = nI (if j = n then d else M j) ∧ ∀ k, k < (if j = n then d else M j) → (if j = n then D else E j) k < 10 ∧ w (9 * j + k) = nI ((if j = n then D else E j) k)
    by_cases e : j = n
    · subst e
      rw [if_pos rfl, if_pos rfl, upd_eq]
      refine ⟨by omega, h9, rfl, fun k hk => ⟨(hD k hk).1, ?_⟩⟩
      rw [w2 k hk]
      exact (hD k hk).2
    · obtain ⟨m1, m2, m3, m4⟩ := h.2 j (by omega)
      rw [if_neg e, if_neg e, upd_ne e]
      refine ⟨m1, m2, m3, fun k hk => ⟨(m4 k hk).1, ?_⟩⟩
      rw [w3 _ (by omega)]
      exact (m4 k hk).2
theorem wareOld {j : Nat} (h : WX n M E a25 a26) (h0 : ¬ d = 0) (h9 : d ≤ 9) (hD : ∀ k, k < d → D k < 10 ∧ a18 k = nI (D k)) (hj : j < n) (he : eT (M j) (E j) d D) (hf : ∀ i, i < j → ¬ eT (M i) (E i) d D) :
    ∃ c, q_X11_ware (nI d) (nI n) (nI 9) c31 a26 a25 a32 a18 = some (.inr (nI j), c) ∧ c.1 = nI n ∧ c.2.2.1 = a26 ∧ c.2.2.2.1 = a25 := by
  obtain ⟨a58, hA⟩ := WX_A h
  have h20 := h.1
  have hd : d ≤ 18 := by omega
  have l9 : nI d ≤ (9 : Int32) := nI_le (b := 9) h9 (by omega)
  obtain ⟨v, c, a, e1, e2⟩ := numC (c31 := c31) (a32 := a32) hA hd hD
  have ev := sameR_u e2 (Or.inr ⟨j, hj, rfl, he, hf⟩)
  subst ev
  refine ⟨(nI n, c, a26, a25, a), ?_, rfl, rfl, rfl⟩
  unfold q_X11_ware
  rw [rqdT h0 hd]
  simp only [xbnd, t_X5_size, if_pos l9, e1, Option.bind_some]
  rw [if_neg (numI j (by omega)).2]
theorem meantOld {j : Nat} (h : WX n M E a25 a26) (h0 : ¬ d = 0) (hd : d ≤ 18) (hD : ∀ k, k < d → D k < 10 ∧ a18 k = nI (D k)) (hj : j < n) (he : eT (M j) (E j) d D) (hf : ∀ i, i < j → ¬ eT (M i) (E i) d D) :
    ∃ c, q_X11_meant (nI d) (nI n) (nI 9) c31 a26 a25 a32 a18 = some (.inr (nI j), c) ∧ True := by
  obtain ⟨a58, hA⟩ := WX_A h
  have h20 := h.1
  obtain ⟨v, c, a, e1, e2⟩ := numC (c31 := c31) (a32 := a32) hA hd hD
  have ev := sameR_u e2 (Or.inr ⟨j, hj, rfl, he, hf⟩)
  subst ev
  refine ⟨(c, a), ?_, trivial⟩
  unfold q_X11_meant
  rw [rqdT h0 hd]
  simp only [xbnd, e1, Option.bind_some]
  rw [if_neg (numI j (by omega)).2]
theorem meantNear (h : WX 1 M E a25 a26) (h0 : ¬ d = 0) (hd : d ≤ 18) (hD : ∀ k, k < d → D k < 10 ∧ a18 k = nI (D k)) (hne : ¬ eT (M 0) (E 0) d D) (hN : ¬ nW (M 0) (E 0) d D = 0) :
    ∃ c, q_X11_meant (nI d) (nI 1) (nI 9) c31 a26 a25 a32 a18 = some (.inr 0, c) ∧ True := by
  obtain ⟨a58, hA⟩ := WX_A h
  obtain ⟨v, c, a, e1, e2⟩ := numC (c31 := c31) (a32 := a32) hA hd hD
  have ev := sameR_u e2 (Or.inl ⟨rfl, fun j hj => by rw [show j = 0 by omega]; exact hne⟩)
  subst ev
  obtain ⟨u, c', a', u1, u2⟩ := nnC (c31 := c) (a32 := a) hA hd hD
  have eu : u = 0 := by
    rcases u2 with ⟨-, q⟩ | ⟨j, hj, q, -⟩ | ⟨-, i, j, q1, q2, -⟩
    · exact absurd hN (q 0 (by omega))
    · rw [q, show j = 0 by omega]
      rfl
    · omega
  subst eu
  refine ⟨(c', a'), ?_, trivial⟩
  unfold q_X11_meant
  rw [rqdT h0 hd]
  simp only [xbnd, e1, Option.bind_some]
  rw [if_pos (show (-1 : Int32) < 0 by decide), u1]
  rfl
theorem nextNone (h : WX 1 M E a25 a26) : ∃ c, q_X11_nextWare 0 (nI 1) (nI 9) a26 a25 a28 c31 a32 c29 a30 c27 = some (.inr (-1), c) ∧ True := by
  obtain ⟨a58, hA⟩ := WX_A h
  obtain ⟨c, a, b, e, f, g, e1⟩ := behC (a28 := a28) (a30 := a30) (a32 := a32) (c29 := c29) (c31 := c31) hA (show 0 < 1 by omega)
  have en : nx M E 0 1 = none := by
    rw [nx_F (k := 0)]
    · rfl
    · rintro ⟨q, -⟩
      rcases q with ⟨j, -, -, -, q⟩ | ⟨-, q⟩
      · exact absurd q (Nat.lt_irrefl _)
      · exact absurd q (Nat.lt_irrefl _)
  rw [en] at e1
  replace e1 : q_X10_numberBehind 0 (nI 1) (nI 9) a26 a25 a28 c31 a32 c29 a30 = some (-1, c, a, b, e, f, g) := e1
  refine ⟨(a, b, e, f, g, c), ?_, trivial⟩
  unfold q_X11_nextWare
  rw [show t_X10_has 0 (nI 1) = 1 by decide, if_pos (show ¬ (1 : Int32) = 0 by decide), e1]
  rfl
end WARES
theorem us_one {D : Nat → Nat} {s v : Nat} (h : ¬ D s = v) : ∀ k, (us D (fun j => if j = s then v else D j) k).1 = if s < k then 1 else 0 := by
  intro k
  induction k with
  | zero => rw [if_neg (Nat.not_lt_zero s)]; rfl
  | succ k ih =>
    by_cases c : k = s
    · subst c
      rw [us_F (by show ¬ D k = (if k = k then v else D k); rw [if_pos rfl]; exact h), if_pos (Nat.lt_succ_self k)]
      show (us _ _ k).1 + 1 = 1
      rw [ih, if_neg (Nat.lt_irrefl k)]
    · rw [us_T (by show D k = (if k = s then v else D k); rw [if_neg c]), ih]
      by_cases q : s < k
      · rw [if_pos q, if_pos (by omega)]
      · rw [if_neg q, if_neg (by omega)]
theorem digitT {n v : Nat} {a18 : Nat → Int32} (hn : n < 18) (hv : v < 10) : q_X11_digit (nI v) (nI n) a18 = some (.inr (nI (n + 1)), (nI (n + 1), upd a18 n (nI v))) := by
  unfold q_X11_digit
  rw [if_neg (nI_pos (by omega)), if_pos (show nI v ≤ (9 : Int32) from nI_le (b := 9) (by omega) (by decide)), show t_X5_size (nI n) = nI n from rfl, if_pos (show nI n < (18 : Int32) from nI_lt (b := 18) hn (by decide)), appendC hn (by omega) (by omega), Option.bind_some]
  rfl
section DIGITS
variable {S : Nat × (Nat → Int32)} {m s v : Nat} {D : Nat → Nat} {a18 a22 a21 : Nat → Int32}
theorem digits13 (hm : m ≤ 9) (hD : ∀ k, k < m → D k < 10 ∧ q_L_some S ((112 : Int32) + nI k) 10 = some (nI (D k))) :
    ∀ t k f (a18 : Nat → Int32), k + t = m → t < f → (∀ j, j < k → a18 j = nI (D j)) → Sat (q_L_areDigits_L13 S (nI m) f (nI k) (nI k) a18) fun z => z.2.1 = nI m ∧ ∀ j, j < m → z.2.2 j = nI (D j) := by
  intro t
  induction t with
  | zero =>
    intro k f a18 hk hf h
    obtain ⟨f, rfl⟩ : ∃ g, f = g + 1 := ⟨f - 1, by omega⟩
    have hk : k = m := by omega
    subst hk
    rw [q_L_areDigits_L13]
    exact sP (nI_le (Nat.le_refl _) (by omega)) ⟨_, rfl, rfl, h⟩
  | succ t ih =>
    intro k f a18 hk hf h
    obtain ⟨f, rfl⟩ : ∃ g, f = g + 1 := ⟨f - 1, by omega⟩
    obtain ⟨d1, d2⟩ := hD k (by omega)
    rw [q_L_areDigits_L13, nI_1]
    refine sN (nI_ge (by omega) (by omega)) ?_
    refine se d2 ?_
    refine sxe (digitT (by omega) d1) ?_
    refine sP rfl ?_
    refine ih (k + 1) f _ (by omega) (by omega) (fun j hj => ?_)
    show upd a18 k (nI (D k)) j = _
    by_cases e : j = k
    · subst e; rw [upd_eq]
    · rw [upd_ne e]; exact h j (by omega)
theorem digits163 {c : Nat} (hm : m ≤ 9) (hs : s < m) (hD : ∀ k, k < m → D k < 10 ∧ q_L_some S ((112 : Int32) + nI k) 10 = some (nI (D k))) (hc : c < 9) (e123 : q_L_some S 123 9 = some (nI c)) (hv : v = (D s + 1 + c) % 10) :
    ∀ t k f (a18 : Nat → Int32), k + t = m → t < f → (∀ j, j < k → a18 j = nI (if j = s then v else D j)) → Sat (q_L_areDigits_L163 S (nI m) (nI s) f (nI k) (nI k) a18) fun z => z.2.1 = nI m ∧ ∀ j, j < m → z.2.2 j = nI (if j = s then v else D j) := by
  intro t
  induction t with
  | zero =>
    intro k f a18 hk hf h
    obtain ⟨f, rfl⟩ : ∃ g, f = g + 1 := ⟨f - 1, by omega⟩
    have hk : k = m := by omega
    subst hk
    rw [q_L_areDigits_L163]
    exact sP (nI_le (Nat.le_refl _) (by omega)) ⟨_, rfl, rfl, h⟩
  | succ t ih =>
    intro k f a18 hk hf h
    obtain ⟨f, rfl⟩ : ∃ g, f = g + 1 := ⟨f - 1, by omega⟩
    obtain ⟨d1, d2⟩ := hD k (by omega)
    have step : ∀ (x : Nat), x = (if k = s then v else D k) → ∀ j, j < k + 1 → upd a18 k (nI x) j = nI (if j = s then v else D j) := by
      intro x hx j hj
      by_cases e : j = k
      · subst e; rw [upd_eq, hx]
      · rw [upd_ne e]; exact h j (by omega)
    rw [q_L_areDigits_L163, nI_1]
    refine sN (nI_ge (by omega) (by omega)) ?_
    refine se d2 ?_
    by_cases e : k = s
    · subst e
      refine sN (fun z => z rfl) ?_
      refine se e123 ?_
      have ed : ((nI (D k) + (1 : Int32)) + nI c) - ((nI (D k) + (1 : Int32)) + nI c) / (10 : Int32) * (10 : Int32) = nI v := by
        rw [k1, k10, nI_add, nI_add, nI_mod (by omega) (by omega) (by omega), hv]
      rw [ed]
      refine sxe (digitT (by omega) (by omega)) ?_
      exact ih (k + 1) f _ (by omega) (by omega) (step v (if_pos rfl).symm)
    · refine sP (ne_of_nI e (by omega) (by omega)) ?_
      refine sxe (digitT (by omega) d1) ?_
      exact ih (k + 1) f _ (by omega) (by omega) (step (D k) (if_neg e).symm)
theorem lent_sc : ∀ k, k < 4 → ([108, 101, 110, 116] : List Int32).getD k 0 = 108 ∨ ([108, 101, 110, 116] : List Int32).getD k 0 = 101 ∨ ([108, 101, 110, 116] : List Int32).getD k 0 = 110 ∨ ([108, 101, 110, 116] : List Int32).getD k 0 = 116 := by decide
theorem lent_sd : ∀ k, k < 4 → 0 < k → ([108, 101, 110, 116] : List Int32).getD k 0 = 101 ∨ ([108, 101, 110, 116] : List Int32).getD k 0 = 110 ∨ ([108, 101, 110, 116] : List Int32).getD k 0 = 116 := by decide
theorem unsT {sc sl : Int32} {c : Int32} (hs : sc = 108 ∨ sc = 101 ∨ sc = 110 ∨ sc = 116) (hx : sl = 115 ∨ sl = 110) (hz : unN sc sl m D = 0) (h0 : 1 ≤ m) (hm : m ≤ 18) (hC : ICo a22) (hD : ∀ k, k < m → D k < 10 ∧ a18 k = nI (D k)) :
    ∃ c', q_X11_unseen sc sl (nI m) a18 a22 c a21 = some (.inr 0, c') ∧ True := by
  obtain ⟨c', a', e⟩ := unC (x2 := sl) hs (by rcases hx with h | h <;> simp [h]) hm h0 hC hD c a21
  rw [hz] at e
  refine ⟨(c', a'), ?_, trivial⟩
  unfold q_X11_unseen
  rw [schT hs]
  simp only [xbnd, rqdT (show ¬ m = 0 by omega) hm, e, Option.bind_some]
  rcases hx with rfl | rfl <;> rfl
theorem chkT {sc : Int32} (hs : sc = 108 ∨ sc = 101 ∨ sc = 110 ∨ sc = 116) (h0 : 1 ≤ m) (hm : m ≤ 18) (hC : ICo a22) (hD : ∀ k, k < m → D k < 10 ∧ a18 k = nI (D k)) : q_X11_check sc (nI m) a18 a22 = some (.inr (nI (ckN sc m D)), ()) := by
  unfold q_X11_check
  rw [schT hs]
  simp only [xbnd, rqdT (show ¬ m = 0 by omega) hm, ckC hs hm h0 hC hD, Option.bind_some]
theorem digits48 (h0 : 1 ≤ m) (hm : m ≤ 18) (hC : ICo a22) (hD : ∀ k, k < m → D k < 10 ∧ a18 k = nI (D k)) :
    ∀ t k f (c : Int32) (a21 : Nat → Int32), k + t = 4 → t < f → Sat (q_L_areDigits_L48 (nI m) a18 a22 f (nI k) c a21) fun _ => True := by
  intro t
  induction t with
  | zero =>
    intro k f c a21 hk hf
    obtain ⟨f, rfl⟩ : ∃ g, f = g + 1 := ⟨f - 1, by omega⟩
    have hk : k = 4 := by omega
    subst hk
    rw [q_L_areDigits_L48]
    exact sP (by decide) ⟨_, rfl, trivial⟩
  | succ t ih =>
    intro k f c a21 hk hf
    obtain ⟨f, rfl⟩ : ∃ g, f = g + 1 := ⟨f - 1, by omega⟩
    have hs := lent_sc k (by omega)
    have hs2 := lent_sd k (by omega)
    rw [q_L_areDigits_L48, nI_1, nI_clamp (by omega)]
    generalize ([108, 101, 110, 116] : List Int32).getD k 0 = sc at hs hs2 ⊢
    have hc := ckN_lt (sc := sc) (n := m) D
    have hD1 := fun k hk => (hD k hk).1
    refine sN (show ¬ (4 : Int32) ≤ nI k from nI_ge (b := 4) (by omega) (by decide)) ?_
    refine sP (xinI (by omega) (by omega)) ?_
    refine sx (unsT hs (Or.inl rfl) (sees1 hs hD1) h0 hm hC hD) ?_
    intro y4 _
    refine sN (fun z => z rfl) ?_
    by_cases z : k = 0
    · subst z
      refine sP (by decide) ?_
      refine sxe (chkT hs h0 hm hC hD) ?_
      refine sP (show (0 : Int32) ≤ nI (ckN sc m D) from nI_le (a := 0) (Nat.zero_le _) (by omega)) ?_
      exact ih _ f _ _ (by omega) (by omega)
    · refine sN (show ¬ nI k ≤ (0 : Int32) from nI_ge (a := 0) (by omega) (by omega)) ?_
      refine sx (unsT hs (Or.inr rfl) (sees2 (hs2 (by omega)) hD1) h0 hm hC hD) ?_
      intro y14 _
      refine sN (fun z => z rfl) ?_
      refine sxe (chkT hs h0 hm hC hD) ?_
      refine sP (show (0 : Int32) ≤ nI (ckN sc m D) from nI_le (a := 0) (Nat.zero_le _) (by omega)) ?_
      exact ih _ f _ _ (by omega) (by omega)
set_option maxHeartbeats 1000000 in
theorem areDigitsT {c20 c31 c29 c27 : Int32} {a26 a25 a32 a28 a30 : Nat → Int32} (hS : S.1 ≤ 260) (hC : ICo a22) :
    Sat (q_L_areDigits S (nI 0) a18 a22 c20 a21 (nI 0) (nI 9) c31 a26 a25 a32 a28 c29 a30 c27) fun z => z.1 = 1 ∧ ∃ (m : Nat) (D : Nat → Nat), 1 ≤ m ∧ m ≤ 9 ∧ z.2.1 = nI m ∧ ∀ k, k < m → D k < 10 ∧ z.2.2.1 k = nI (D k) := by
  obtain ⟨u, hu, e1⟩ := someT hS (i := 111) (n := 9) (by omega) (by omega) (by omega)
  obtain ⟨m, hm⟩ : ∃ m, m = 1 + u := ⟨_, rfl⟩
  have em : (1 : Int32) + nI u = nI m := by rw [k1, nI_add, hm]
  obtain ⟨D, hD0⟩ : ∃ D : Nat → Nat, ∀ k, k < m → D k < 10 ∧ q_L_some S ((112 : Int32) + nI k) 10 = some (nI (D k)) := by
    have h : ∀ k : Nat, ∃ d : Nat, k < m → d < 10 ∧ q_L_some S ((112 : Int32) + nI k) 10 = some (nI d) := by
      intro k
      obtain ⟨d, d1, d2⟩ := someT hS (i := 112 + k % 100) (n := 10) (by omega) (by omega) (by omega)
      refine ⟨d, fun hk => ⟨d1, ?_⟩⟩
      rw [show 112 + k % 100 = 112 + k by omega, ← nI_add] at d2
      exact d2
    exact Classical.skolem.mp h
  obtain ⟨s, hs, e2⟩ := someT hS (i := 122) (n := m) (by omega) (by omega) (by omega)
  obtain ⟨c, hc, e3⟩ := someT hS (i := 123) (n := 9) (by omega) (by omega) (by omega)
  replace e3 : q_L_some S 123 9 = some (nI c) := e3
  obtain ⟨v, hv⟩ : ∃ v, v = (D s + 1 + c) % 10 := ⟨_, rfl⟩
  have hne : ¬ D s = v := by have := (hD0 s hs).1; omega
  unfold q_L_areDigits
  refine se (x := nI u) e1 ?_
  rw [em]
  refine sb (digits13 (by omega) hD0 m 0 10000 _ (by omega) (by omega) (fun j hj => absurd hj (Nat.not_lt_zero j))) ?_
  rintro ⟨l, q, b⟩ ⟨rfl, hb⟩
  replace hb : ∀ j, j < m → b j = nI (D j) := hb
  have hD : ∀ k, k < m → D k < 10 ∧ b k = nI (D k) := fun k hk => ⟨(hD0 k hk).1, hb k hk⟩
  refine sb (digits48 (by omega) (by omega) hC hD 4 0 10000 _ _ (by omega) (by omega)) ?_
  intro y7 _
  have hW0 : WX 0 (fun _ => 0) (fun _ _ => 0) a25 a26 := ⟨by omega, fun j hj => absurd hj (Nat.not_lt_zero j)⟩
  refine sx (wareNew hW0 (by omega) (show ¬ m = 0 by omega) (by omega) hD (fun j hj => absurd hj (Nat.not_lt_zero j))) ?_
  rintro ⟨p1, p2, p3, p4, p5⟩ ⟨rfl, hW1⟩
  replace hW1 : WX 1 (fun j => if j = 0 then m else 0) (fun j => if j = 0 then D else fun _ => 0) p4 p3 := hW1
  have s1 : eT ((fun j => if j = 0 then m else 0) 0) ((fun j => if j = 0 then D else fun _ => 0) 0) m D := ⟨if_pos rfl, fun i _ => by show (if 0 = 0 then D else _) i = D i; rw [if_pos rfl]⟩
  have n1 : ∀ i, i < 0 → ¬ eT ((fun j => if j = 0 then m else 0) i) ((fun j => if j = 0 then D else fun _ => 0) i) m D := fun i hi => absurd hi (Nat.not_lt_zero i)
  refine sN (fun z => z rfl) ?_
  refine sx (wareOld (j := 0) hW1 (show ¬ m = 0 by omega) (by omega) hD (by omega) s1 n1) ?_
  rintro ⟨r1, r2, r3, r4, r5⟩ ⟨rfl, rfl, rfl⟩
  refine sN (fun z => z rfl) ?_
  refine sx (meantOld (j := 0) hW1 (show ¬ m = 0 by omega) (by omega) hD (by omega) s1 n1) ?_
  intro y75 _
  refine sN (fun z => z rfl) ?_
  refine sx (nextNone hW1) ?_
  intro y105 _
  refine sN (fun z => z rfl) ?_
  refine se e2 ?_
  refine sb (digits163 (by omega) hs hD0 hc e3 hv m 0 10000 _ (by omega) (by omega) (fun j hj => absurd hj (Nat.not_lt_zero j))) ?_
  rintro ⟨l', q', b'⟩ ⟨rfl, hb'⟩
  replace hb' : ∀ j, j < m → b' j = nI (if j = s then v else D j) := hb'
  have hD' : ∀ k, k < m → (fun j => if j = s then v else D j) k < 10 ∧ b' k = nI ((fun j => if j = s then v else D j) k) := fun k hk => ⟨by
    show (if k = s then v else D k) < 10
    by_cases z : k = s
    · rw [if_pos z]; omega
    · rw [if_neg z]; exact (hD0 k hk).1, hb' k hk⟩
  refine sN (show ¬ (if ¬ (t_X11_clear (nI m)).1 = nI m then (0 : Int32) else 1) = 0 by rw [if_neg (fun z => z rfl)]; decide) ?_
  have nE : ¬ eT m D m (fun j => if j = s then v else D j) := by
    rintro ⟨-, z⟩
    have := z s hs
    dsimp only at this
    rw [if_pos rfl] at this
    exact hne this
  have nN : ¬ nW m D m (fun j => if j = s then v else D j) = 0 := by
    unfold nW nV
    rw [if_pos rfl, us_one hne, if_pos hs, if_pos rfl]
    decide
  refine sx (meantNear hW1 (show ¬ m = 0 by omega) (by omega) hD' (by show ¬ eT (if 0 = 0 then m else 0) (if 0 = 0 then D else fun _ => 0) m _; rw [if_pos rfl, if_pos rfl]; exact nE) (by show ¬ nW (if 0 = 0 then m else 0) (if 0 = 0 then D else fun _ => 0) m _ = 0; rw [if_pos rfl, if_pos rfl]; exact nN)) ?_
  intro y143 _
  refine sN (fun z => z rfl) ?_
  refine sx (wareNew hW1 (by omega) (show ¬ m = 0 by omega) (by omega) hD' (fun j hj => by
    have hj : j = 0 := by omega
    subst hj
    show ¬ eT (if 0 = 0 then m else 0) (if 0 = 0 then D else fun _ => 0) m _
    rw [if_pos rfl, if_pos rfl]
    exact nE)) ?_
  rintro ⟨t1, t2, t3, t4, t5⟩ ⟨rfl, hW2⟩
  refine sN (fun z => z rfl) ?_
  refine sx (meantOld (j := 1) hW2 (show ¬ m = 0 by omega) (by omega) hD' (by omega) ⟨if_pos rfl, fun i _ => by show (if 1 = 1 then (fun j => if j = s then v else D j) else _) i = _; rw [if_pos rfl]⟩ (fun i hi => by
    have hi : i = 0 := by omega
    subst hi
    show ¬ eT (if 0 = 1 then m else if 0 = 0 then m else 0) (if 0 = 1 then (fun j => if j = s then v else D j) else if 0 = 0 then D else fun _ => 0) m _
    rw [if_neg (show ¬ (0 : Nat) = 1 by decide), if_neg (show ¬ (0 : Nat) = 1 by decide), if_pos rfl, if_pos rfl]
    exact nE)) ?_
  intro y155 _
  refine sN (fun z => z rfl) ?_
  exact ⟨_, rfl, rfl, m, _, by omega, by omega, rfl, hD'⟩
end DIGITS

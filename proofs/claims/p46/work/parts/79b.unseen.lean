/-! Slips of digits that a scheme does not see. -/
def chg (D : Nat → Nat) (k b v : Nat) : Nat → Nat := fun j => if j = k ∨ j = b then v else D j
def swp (D : Nat → Nat) (k b : Nat) : Nat → Nat := fun j => if j = b then D k else if j = k then D b else D j
theorem chgR {n k b v : Nat} {D : Nat → Nat} {e : Nat → Int32} (hv : v < 10) (he : ∀ j, j < n → j ≠ k → j ≠ b → D j < 10 ∧ e j = nI (D j)) : ∀ j, j < n → chg D k b v j < 10 ∧ upd (upd e k (nI v)) b (nI v) j = nI (chg D k b v j) := by
  intro j hj
  show (if j = k ∨ j = b then v else D j) < 10 ∧ _ = nI (if j = k ∨ j = b then v else D j)
  by_cases h1 : j = b
  · rw [if_pos (show j = k ∨ j = b from Or.inr h1), h1, upd_eq]
    exact ⟨hv, rfl⟩
  · rw [upd_ne h1]
    by_cases h2 : j = k
    · rw [if_pos (show j = k ∨ j = b from Or.inl h2), h2, upd_eq]
      exact ⟨hv, rfl⟩
    · rw [upd_ne h2, if_neg (fun h => h.elim h2 h1)]
      exact he j hj h2 h1
theorem swpR {n k b : Nat} {D : Nat → Nat} {e : Nat → Int32} (hk : D k < 10) (hb : D b < 10) (he : ∀ j, j < n → D j < 10 ∧ e j = nI (D j)) : ∀ j, j < n → swp D k b j < 10 ∧ upd (upd e k (nI (D b))) b (nI (D k)) j = nI (swp D k b j) := by
  intro j hj
  show (if j = b then D k else if j = k then D b else D j) < 10 ∧ _ = nI (if j = b then D k else if j = k then D b else D j)
  by_cases h1 : j = b
  · rw [if_pos h1, h1, upd_eq]
    exact ⟨hk, rfl⟩
  · rw [upd_ne h1, if_neg h1]
    by_cases h2 : j = k
    · rw [if_pos h2, h2, upd_eq]
      exact ⟨hb, rfl⟩
    · rw [upd_ne h2, if_neg h2]
      exact he j hj
/-- how many of the digits below one, put in place of both, are not seen, and so many before -/
def inn (sc : Int32) (n : Nat) (D : Nat → Nat) (ck : Int32) (k b : Nat) (l : Int32) : Nat → Int32
  | 0 => l
  | v + 1 => if D k = v then inn sc n D ck k b l v else inn sc n D ck k b l v + (if ¬ nI (ckN sc n (chg D k b v)) = ck then 0 else 1)
theorem innC {sc ck : Int32} {n k b : Nat} {D : Nat → Nat} {a18 a22 : Nat → Int32} (hs : sc = 108 ∨ sc = 101 ∨ sc = 110 ∨ sc = 116) (hn : n ≤ 18) (h0 : 1 ≤ n) (hC : ICo a22) (hD : ∀ k, k < n → D k < 10 ∧ a18 k = nI (D k)) (hk : k < n) (hb : b < n) (he : D k = D b) (l c : Int32) (a : Nat → Int32) : ∃ r, q_X6_unseenChanges_L36 sc ck (nI k) (nI b) (nI n) a18 a22 10000 l 0 c a = some r ∧ r.1 = inn sc n D ck k b l 10 := by
  have ek : t_X5_at (nI k) 18 a18 = nI (D k) := by rw [atI (by omega) (by omega)]; exact (hD k hk).2
  have eb : t_X5_at (nI b) 18 a18 = nI (D k) := by rw [atI (by omega) (by omega), he]; exact (hD b hb).2
  have dk := (hD k hk).1
  exact loop_inv (F := fun f (z : Int32 × Int32 × Int32 × (Nat → Int32)) => q_X6_unseenChanges_L36 sc ck (nI k) (nI b) (nI n) a18 a22 f z.1 z.2.1 z.2.2.1 z.2.2.2)
    (fun v z => z.1 = inn sc n D ck k b l v ∧ z.2.1 = nI v) (fun r => r.1 = inn sc n D ck k b l 10) 10
    (by
      rintro f ⟨z1, z2, z3, z4⟩ ⟨h1, h2⟩
      have h2 : z2 = _ := h2
      subst h2
      refine ⟨(z1, nI 10, z3, z4), ?_, h1⟩
      show q_X6_unseenChanges_L36 sc ck (nI k) (nI b) (nI n) a18 a22 (f + 1) z1 (nI 10) z3 z4 = _
      rw [q_X6_unseenChanges_L36, if_pos (show (9 : Int32) < nI 10 by decide)])
    (by
      rintro f v ⟨z1, z2, z3, z4⟩ hv ⟨h1, h2⟩
      have h1 : z1 = _ := h1
      have h2 : z2 = _ := h2
      subst h1
      subst h2
      have g9 : ¬ (9 : Int32) < nI v := fun q => by have := (nI_ltI (a := 9) (by omega) (by omega)).mp q; omega
      by_cases c : D k = v
      · refine Or.inr ⟨(inn sc n D ck k b l (v + 1), nI (v + 1), z3, z4), ?_, rfl, rfl⟩
        show q_X6_unseenChanges_L36 sc ck (nI k) (nI b) (nI n) a18 a22 (f + 1) _ (nI v) z3 z4 = q_X6_unseenChanges_L36 sc ck (nI k) (nI b) (nI n) a18 a22 f (inn sc n D ck k b l (v + 1)) (nI (v + 1)) z3 z4
        rw [show inn sc n D ck k b l (v + 1) = inn sc n D ck k b l v from if_pos c, q_X6_unseenChanges_L36, if_neg g9, ek, eb, if_neg (show ¬ ¬ nI (D k) = nI (D k) from fun h => h rfl), if_pos (show nI (D k) = nI v by rw [c]), nI_1]
      · obtain ⟨e, e1, e2⟩ := copyC (n := n) (m0 := 18) (m1 := 18) (f := z4) (g := a18) hn hn (by omega) (by omega)
        have e3 : t_X5_change (nI b) (nI v) 18 (t_X5_change (nI k) (nI v) 18 e) = upd (upd e k (nI v)) b (nI v) := by rw [chI (by omega) (by omega), chI (by omega) (by omega)]
        have e4 := ckC (a18 := upd (upd e k (nI v)) b (nI v)) hs hn h0 hC (chgR (D := D) hv (fun j hj _ _ => ⟨(hD j hj).1, by rw [e2, if_pos hj]; exact (hD j hj).2⟩))
        refine Or.inr ⟨(inn sc n D ck k b l (v + 1), nI (v + 1), nI n, upd (upd e k (nI v)) b (nI v)), ?_, rfl, rfl⟩
        show q_X6_unseenChanges_L36 sc ck (nI k) (nI b) (nI n) a18 a22 (f + 1) _ (nI v) z3 z4 = q_X6_unseenChanges_L36 sc ck (nI k) (nI b) (nI n) a18 a22 f (inn sc n D ck k b l (v + 1)) (nI (v + 1)) (nI n) (upd (upd e k (nI v)) b (nI v))
        rw [show inn sc n D ck k b l (v + 1) = inn sc n D ck k b l v + (if ¬ nI (ckN sc n (chg D k b v)) = ck then 0 else 1) from if_neg c, q_X6_unseenChanges_L36, if_neg g9, ek, eb, if_neg (show ¬ ¬ nI (D k) = nI (D k) from fun h => h rfl), if_neg (show ¬ nI (D k) = nI v from ne_of_nI c (by omega) (by omega)), e1]
        simp only [Option.bind_some, e3, e4, nI_1])
    10000 0 (l, nI 0, c, a) ⟨rfl, rfl⟩ (Nat.zero_le _) (by omega)
theorem innK {sc ck : Int32} {n k b : Nat} {D : Nat → Nat} {a18 a22 : Nat → Int32} (hn : n ≤ 18) (hD : ∀ k, k < n → D k < 10 ∧ a18 k = nI (D k)) (hk : k < n) (hb : b < n) (he : ¬ D k = D b) (l c : Int32) (a : Nat → Int32) : ∃ r, q_X6_unseenChanges_L36 sc ck (nI k) (nI b) (nI n) a18 a22 10000 l 0 c a = some r ∧ r.1 = l := by
  have ek : t_X5_at (nI k) 18 a18 = nI (D k) := by rw [atI (by omega) (by omega)]; exact (hD k hk).2
  have eb : t_X5_at (nI b) 18 a18 = nI (D b) := by rw [atI (by omega) (by omega)]; exact (hD b hb).2
  have dk := (hD k hk).1
  have db := (hD b hb).1
  exact loop_inv (F := fun f (z : Int32 × Int32 × Int32 × (Nat → Int32)) => q_X6_unseenChanges_L36 sc ck (nI k) (nI b) (nI n) a18 a22 f z.1 z.2.1 z.2.2.1 z.2.2.2)
    (fun v z => z.1 = l ∧ z.2.1 = nI v) (fun r => r.1 = l) 10
    (by
      rintro f ⟨z1, z2, z3, z4⟩ ⟨h1, h2⟩
      have h2 : z2 = _ := h2
      subst h2
      refine ⟨(z1, nI 10, z3, z4), ?_, h1⟩
      show q_X6_unseenChanges_L36 sc ck (nI k) (nI b) (nI n) a18 a22 (f + 1) _ (nI 10) z3 z4 = _
      rw [q_X6_unseenChanges_L36, if_pos (show (9 : Int32) < nI 10 by decide)])
    (by
      rintro f v ⟨z1, z2, z3, z4⟩ hv ⟨h1, h2⟩
      have h2 : z2 = _ := h2
      subst h2
      have g9 : ¬ (9 : Int32) < nI v := fun q => by have := (nI_ltI (a := 9) (by omega) (by omega)).mp q; omega
      refine Or.inr ⟨(z1, nI (v + 1), z3, z4), ?_, h1, rfl⟩
      show q_X6_unseenChanges_L36 sc ck (nI k) (nI b) (nI n) a18 a22 (f + 1) z1 (nI v) z3 z4 = q_X6_unseenChanges_L36 sc ck (nI k) (nI b) (nI n) a18 a22 f z1 (nI (v + 1)) z3 z4
      rw [q_X6_unseenChanges_L36, if_neg g9, ek, eb, if_pos (show ¬ nI (D k) = nI (D b) from ne_of_nI he (by omega) (by omega)), nI_1])
    10000 0 (l, nI 0, c, a) ⟨rfl, rfl⟩ (Nat.zero_le _) (by omega)
/-- place by place -/
def out (st : Nat → Int32 → Int32) : Nat → Int32
  | 0 => 0
  | k + 1 => st k (out st k)
theorem out_stay {st : Nat → Int32 → Int32} {N : Nat} (h : ∀ k l, N ≤ k → st k l = l) : ∀ d, out st (N + d) = out st N := by
  intro d
  induction d with
  | zero => rfl
  | succ d ih =>
    show st (N + d) (out st (N + d)) = _
    rw [h _ _ (by omega), ih]
def stC (sc : Int32) (n : Nat) (D : Nat → Nat) (ck : Int32) (ap k : Nat) (l : Int32) : Int32 := if n ≤ k + ap then l else if D k = D (k + ap) then inn sc n D ck k (k + ap) l 10 else l
def stS (sc : Int32) (n : Nat) (D : Nat → Nat) (ck : Int32) (ap k : Nat) (l : Int32) : Int32 := if n ≤ k + ap then l else if D k = D (k + ap) then l else l + (if ¬ nI (ckN sc n (swp D k (k + ap))) = ck then 0 else 1)
theorem chC {sc : Int32} {n ap : Nat} {D : Nat → Nat} {a18 a22 : Nat → Int32} (hs : sc = 108 ∨ sc = 101 ∨ sc = 110 ∨ sc = 116) (hn : n ≤ 18) (h0 : 1 ≤ n) (hC : ICo a22) (hD : ∀ k, k < n → D k < 10 ∧ a18 k = nI (D k)) (hap : ap ≤ 1) (c : Int32) (a : Nat → Int32) : ∃ c' a', q_X6_unseenChanges sc (nI (ap + 1)) (nI n) a18 a22 c a = some (out (stC sc n D (nI (ckN sc n D)) ap) n, c', a') := by
  obtain ⟨r, r1, r2⟩ := loop_inv (F := fun f (z : Int32 × Int32 × Int32 × (Nat → Int32)) => q_X6_unseenChanges_L14 sc (nI (ap + 1)) (nI (ckN sc n D)) (nI n) a18 a22 f z.1 z.2.1 z.2.2.1 z.2.2.2)
    (fun j z => z.1 = out (stC sc n D (nI (ckN sc n D)) ap) j ∧ z.2.1 = nI j) (fun r => r.1 = out (stC sc n D (nI (ckN sc n D)) ap) (n - ap)) (n - ap)
    (by
      rintro f ⟨z1, z2, z3, z4⟩ ⟨h1, h2⟩
      have h2 : z2 = _ := h2
      subst h2
      refine ⟨(z1, nI (n - ap), z3, z4), ?_, h1⟩
      show q_X6_unseenChanges_L14 sc (nI (ap + 1)) (nI (ckN sc n D)) (nI n) a18 a22 (f + 1) z1 (nI (n - ap)) z3 z4 = _
      rw [q_X6_unseenChanges_L14, nI_add, show t_X5_size (nI n) = nI n from rfl, if_pos (nI_lt (by omega) (by omega))])
    (by
      rintro f j ⟨z1, z2, z3, z4⟩ hj ⟨h1, h2⟩
      have h1 : z1 = _ := h1
      have h2 : z2 = _ := h2
      subst h1
      subst h2
      have g : ¬ nI n < nI (j + (ap + 1)) := fun q => by have := (nI_ltI (by omega) (by omega)).mp q; omega
      have key : ∃ r, q_X6_unseenChanges_L36 sc (nI (ckN sc n D)) (nI j) (nI (j + ap)) (nI n) a18 a22 10000 (out (stC sc n D (nI (ckN sc n D)) ap) j) 0 z3 z4 = some r ∧ r.1 = out (stC sc n D (nI (ckN sc n D)) ap) (j + 1) := by
        by_cases e : D j = D (j + ap)
        · obtain ⟨r, r1, r2⟩ := innC (ck := nI (ckN sc n D)) hs hn h0 hC hD (show j < n by omega) (show j + ap < n by omega) e (out (stC sc n D (nI (ckN sc n D)) ap) j) z3 z4
          refine ⟨r, r1, r2.trans ?_⟩
          show _ = stC sc n D (nI (ckN sc n D)) ap j (out (stC sc n D (nI (ckN sc n D)) ap) j)
          unfold stC
          rw [if_neg (show ¬ n ≤ j + ap by omega), if_pos e]
        · obtain ⟨r, r1, r2⟩ := innK (sc := sc) (ck := nI (ckN sc n D)) (a22 := a22) hn hD (show j < n by omega) (show j + ap < n by omega) e (out (stC sc n D (nI (ckN sc n D)) ap) j) z3 z4
          refine ⟨r, r1, r2.trans ?_⟩
          show _ = stC sc n D (nI (ckN sc n D)) ap j (out (stC sc n D (nI (ckN sc n D)) ap) j)
          unfold stC
          rw [if_neg (show ¬ n ≤ j + ap by omega), if_neg e]
      obtain ⟨r, r1, r2⟩ := key
      refine Or.inr ⟨(r.1, nI (j + 1), r.2.2.1, r.2.2.2), ?_, r2, rfl⟩
      show q_X6_unseenChanges_L14 sc (nI (ap + 1)) (nI (ckN sc n D)) (nI n) a18 a22 (f + 1) _ (nI j) z3 z4 = q_X6_unseenChanges_L14 sc (nI (ap + 1)) (nI (ckN sc n D)) (nI n) a18 a22 f r.1 (nI (j + 1)) r.2.2.1 r.2.2.2
      rw [q_X6_unseenChanges_L14, nI_add, show t_X5_size (nI n) = nI n from rfl, if_neg g, nI_pred' (by omega), show j + (ap + 1) - 1 = j + ap by omega, r1, Option.bind_some, nI_1])
    10000 0 (0, nI 0, c, a) ⟨rfl, rfl⟩ (Nat.zero_le _) (by omega)
  have r1 : q_X6_unseenChanges_L14 sc (nI (ap + 1)) (nI (ckN sc n D)) (nI n) a18 a22 10000 0 0 c a = some r := r1
  have hst : out (stC sc n D (nI (ckN sc n D)) ap) n = out (stC sc n D (nI (ckN sc n D)) ap) (n - ap) := by
    have := out_stay (st := stC sc n D (nI (ckN sc n D)) ap) (N := n - ap) (fun k l h => by unfold stC; rw [if_pos (by omega)]) ap
    rw [show n - ap + ap = n by omega] at this
    exact this
  refine ⟨r.2.2.1, r.2.2.2, ?_⟩
  unfold q_X6_unseenChanges
  rw [ckC hs hn h0 hC hD, Option.bind_some, r1, Option.bind_some, r2, hst]
theorem swC {sc : Int32} {n ap : Nat} {D : Nat → Nat} {a18 a22 : Nat → Int32} (hs : sc = 108 ∨ sc = 101 ∨ sc = 110 ∨ sc = 116) (hn : n ≤ 18) (h0 : 1 ≤ n) (hC : ICo a22) (hD : ∀ k, k < n → D k < 10 ∧ a18 k = nI (D k)) (hap : ap ≤ 2) (h1 : 1 ≤ ap) (c : Int32) (a : Nat → Int32) : ∃ c' a', q_X6_unseenSwaps sc (nI ap) (nI n) a18 a22 c a = some (out (stS sc n D (nI (ckN sc n D)) ap) n, c', a') := by
  obtain ⟨r, r1, r2⟩ := loop_inv (F := fun f (z : Int32 × Int32 × Int32 × (Nat → Int32)) => q_X6_unseenSwaps_L14 sc (nI ap) (nI (ckN sc n D)) (nI n) a18 a22 f z.1 z.2.1 z.2.2.1 z.2.2.2)
    (fun j z => z.1 = out (stS sc n D (nI (ckN sc n D)) ap) j ∧ z.2.1 = nI j) (fun r => r.1 = out (stS sc n D (nI (ckN sc n D)) ap) (n - ap)) (n - ap)
    (by
      rintro f ⟨z1, z2, z3, z4⟩ ⟨h1, h2⟩
      have h2 : z2 = _ := h2
      subst h2
      refine ⟨(z1, nI (n - ap), z3, z4), ?_, h1⟩
      show q_X6_unseenSwaps_L14 sc (nI ap) (nI (ckN sc n D)) (nI n) a18 a22 (f + 1) z1 (nI (n - ap)) z3 z4 = _
      rw [q_X6_unseenSwaps_L14, nI_add, show t_X5_size (nI n) = nI n from rfl, if_pos (nI_le (by omega) (by omega))])
    (by
      rintro f j ⟨z1, z2, z3, z4⟩ hj ⟨h1, h2⟩
      have h1 : z1 = _ := h1
      have h2 : z2 = _ := h2
      subst h1
      subst h2
      have g : ¬ nI n ≤ nI (j + ap) := nI_ge (by omega) (by omega)
      have ek : t_X5_at (nI j) 18 a18 = nI (D j) := by rw [atI (by omega) (by omega)]; exact (hD j (by omega)).2
      have eb : t_X5_at (nI (j + ap)) 18 a18 = nI (D (j + ap)) := by rw [atI (by omega) (by omega)]; exact (hD (j + ap) (by omega)).2
      have dk := (hD j (by omega)).1
      have db := (hD (j + ap) (by omega)).1
      by_cases e : D j = D (j + ap)
      · refine Or.inr ⟨(out (stS sc n D (nI (ckN sc n D)) ap) (j + 1), nI (j + 1), z3, z4), ?_, rfl, rfl⟩
        have ho : out (stS sc n D (nI (ckN sc n D)) ap) (j + 1) = out (stS sc n D (nI (ckN sc n D)) ap) j := by
          show stS sc n D (nI (ckN sc n D)) ap j (out (stS sc n D (nI (ckN sc n D)) ap) j) = _
          unfold stS
          rw [if_neg (show ¬ n ≤ j + ap by omega), if_pos e]
        show q_X6_unseenSwaps_L14 sc (nI ap) (nI (ckN sc n D)) (nI n) a18 a22 (f + 1) _ (nI j) z3 z4 = q_X6_unseenSwaps_L14 sc (nI ap) (nI (ckN sc n D)) (nI n) a18 a22 f (out (stS sc n D (nI (ckN sc n D)) ap) (j + 1)) (nI (j + 1)) z3 z4
        rw [ho, q_X6_unseenSwaps_L14, nI_add, show t_X5_size (nI n) = nI n from rfl, if_neg g, ek, eb, if_pos (show nI (D j) = nI (D (j + ap)) by rw [e]), nI_1]
      · obtain ⟨y, e1, e2⟩ := copyC (n := n) (m0 := 18) (m1 := 18) (f := z4) (g := a18) hn hn (by omega) (by omega)
        have e3 : t_X5_change (nI (j + ap)) (nI (D j)) 18 (t_X5_change (nI j) (nI (D (j + ap))) 18 y) = upd (upd y j (nI (D (j + ap)))) (j + ap) (nI (D j)) := by rw [chI (by omega) (by omega), chI (by omega) (by omega)]
        have e4 := ckC (a18 := upd (upd y j (nI (D (j + ap)))) (j + ap) (nI (D j))) hs hn h0 hC (swpR (D := D) dk db (fun j hj => ⟨(hD j hj).1, by rw [e2, if_pos hj]; exact (hD j hj).2⟩))
        have ho : out (stS sc n D (nI (ckN sc n D)) ap) (j + 1) = out (stS sc n D (nI (ckN sc n D)) ap) j + (if ¬ nI (ckN sc n (swp D j (j + ap))) = nI (ckN sc n D) then 0 else 1) := by
          show stS sc n D (nI (ckN sc n D)) ap j (out (stS sc n D (nI (ckN sc n D)) ap) j) = _
          unfold stS
          rw [if_neg (show ¬ n ≤ j + ap by omega), if_neg e]
        refine Or.inr ⟨(out (stS sc n D (nI (ckN sc n D)) ap) (j + 1), nI (j + 1), nI n, upd (upd y j (nI (D (j + ap)))) (j + ap) (nI (D j))), ?_, rfl, rfl⟩
        show q_X6_unseenSwaps_L14 sc (nI ap) (nI (ckN sc n D)) (nI n) a18 a22 (f + 1) _ (nI j) z3 z4 = q_X6_unseenSwaps_L14 sc (nI ap) (nI (ckN sc n D)) (nI n) a18 a22 f (out (stS sc n D (nI (ckN sc n D)) ap) (j + 1)) (nI (j + 1)) (nI n) (upd (upd y j (nI (D (j + ap)))) (j + ap) (nI (D j)))
        rw [ho, q_X6_unseenSwaps_L14, nI_add, show t_X5_size (nI n) = nI n from rfl, if_neg g, ek, eb, if_neg (show ¬ nI (D j) = nI (D (j + ap)) from ne_of_nI e (by omega) (by omega)), e1]
        simp only [Option.bind_some, e3, e4, nI_1])
    10000 0 (0, nI 0, c, a) ⟨rfl, rfl⟩ (Nat.zero_le _) (by omega)
  have r1 : q_X6_unseenSwaps_L14 sc (nI ap) (nI (ckN sc n D)) (nI n) a18 a22 10000 0 0 c a = some r := r1
  have hst : out (stS sc n D (nI (ckN sc n D)) ap) n = out (stS sc n D (nI (ckN sc n D)) ap) (n - ap) := by
    by_cases h : ap ≤ n
    · have := out_stay (st := stS sc n D (nI (ckN sc n D)) ap) (N := n - ap) (fun k l h => by unfold stS; rw [if_pos (by omega)]) ap
      rw [show n - ap + ap = n by omega] at this
      exact this
    · have := out_stay (st := stS sc n D (nI (ckN sc n D)) ap) (N := n - ap) (fun k l h => by unfold stS; rw [if_pos (by omega)]) n
      rw [show n - ap + n = n by omega] at this
      exact this
  refine ⟨r.2.2.1, r.2.2.2, ?_⟩
  unfold q_X6_unseenSwaps
  rw [ckC hs hn h0 hC hD, Option.bind_some, r1, Option.bind_some, r2, hst]
/-! The reference's half. -/
theorem backR {n k b : Nat} {D : Nat → Nat} {y : Nat → Int32} (he : D k = D b) (hD : ∀ j, j < n → D j < 10) (h : ∀ j, j < n → j ≠ k → j ≠ b → y j = nI (D j)) : ∀ j, j < n → D j < 10 ∧ upd (upd y k (nI (D k))) b (nI (D k)) j = nI (D j) := by
  intro j hj
  refine ⟨hD j hj, ?_⟩
  by_cases h1 : j = b
  · rw [h1, upd_eq, he]
  · rw [upd_ne h1]
    by_cases h2 : j = k
    · rw [h2, upd_eq]
    · rw [upd_ne h2]
      exact h j hj h2 h1
theorem swap3 {n k b : Nat} {D : Nat → Nat} {a : Nat → Int32} (hkb : k ≠ b) (hk : k < n) (hb : b < n) (hD : ∀ j, j < n → D j < 10 ∧ a j = nI (D j)) : ∀ j, j < n → D j < 10 ∧ upd (upd (upd (upd a k (a b)) b (a k)) k ((upd (upd a k (a b)) b (a k)) b)) b ((upd (upd a k (a b)) b (a k)) k) j = nI (D j) := by
  intro j hj
  refine ⟨(hD j hj).1, ?_⟩
  by_cases h1 : j = b
  · rw [h1, upd_eq, upd_ne hkb, upd_eq]
    exact (hD b hb).2
  · rw [upd_ne h1]
    by_cases h2 : j = k
    · rw [h2, upd_eq, upd_eq]
      exact (hD k hk).2
    · rw [upd_ne h2, upd_ne h1, upd_ne h2]
      exact (hD j hj).2
/-- how many slips are not seen -/
def unN (sc x2 : Int32) (n : Nat) (D : Nat → Nat) : Int32 := if x2 = 115 then out (stC sc n D (nI (ckN sc n D)) 0) n else if x2 = 119 then out (stC sc n D (nI (ckN sc n D)) 1) n else if x2 = 110 then out (stS sc n D (nI (ckN sc n D)) 1) n else out (stS sc n D (nI (ckN sc n D)) 2) n
theorem unC {sc x2 : Int32} {n : Nat} {D : Nat → Nat} {a18 a22 : Nat → Int32} (hs : sc = 108 ∨ sc = 101 ∨ sc = 110 ∨ sc = 116) (hx : x2 = 115 ∨ x2 = 110 ∨ x2 = 106 ∨ x2 = 119) (hn : n ≤ 18) (h0 : 1 ≤ n) (hC : ICo a22) (hD : ∀ k, k < n → D k < 10 ∧ a18 k = nI (D k)) (c : Int32) (a : Nat → Int32) : ∃ c' a', q_X6_countUnseen sc x2 (nI n) a18 a22 c a = some (unN sc x2 n D, c', a') := by
  rcases hx with rfl | rfl | rfl | rfl
  · obtain ⟨c', a', e⟩ := chC (ap := 0) hs hn h0 hC hD (by omega) c a
    refine ⟨c', a', ?_⟩
    unfold q_X6_countUnseen
    have e : q_X6_unseenChanges sc 1 (nI n) a18 a22 c a = _ := e
    rw [if_neg (show ¬ ¬ (115 : Int32) = 115 from fun h => h rfl), e]
    rfl
  · obtain ⟨c', a', e⟩ := swC (ap := 1) hs hn h0 hC hD (by omega) (by omega) c a
    refine ⟨c', a', ?_⟩
    unfold q_X6_countUnseen
    have e : q_X6_unseenSwaps sc 1 (nI n) a18 a22 c a = _ := e
    rw [if_pos (show ¬ (110 : Int32) = 115 by decide), if_pos (show ¬ (110 : Int32) = 119 by decide), if_neg (show ¬ ¬ (110 : Int32) = 110 from fun h => h rfl), e]
    rfl
  · obtain ⟨c', a', e⟩ := swC (ap := 2) hs hn h0 hC hD (by omega) (by omega) c a
    refine ⟨c', a', ?_⟩
    unfold q_X6_countUnseen
    have e : q_X6_unseenSwaps sc 2 (nI n) a18 a22 c a = _ := e
    rw [if_pos (show ¬ (106 : Int32) = 115 by decide), if_pos (show ¬ (106 : Int32) = 119 by decide), if_pos (show ¬ (106 : Int32) = 110 by decide), e]
    rfl
  · obtain ⟨c', a', e⟩ := chC (ap := 1) hs hn h0 hC hD (by omega) c a
    refine ⟨c', a', ?_⟩
    unfold q_X6_countUnseen
    have e : q_X6_unseenChanges sc 2 (nI n) a18 a22 c a = _ := e
    rw [if_pos (show ¬ (119 : Int32) = 115 by decide), if_neg (show ¬ ¬ (119 : Int32) = 119 from fun h => h rfl), e]
    rfl

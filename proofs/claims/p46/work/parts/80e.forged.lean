/-! Four forged bytes give the wanted sum; with another byte among them it is another one; undone, all is as it was. -/
section FORGED
variable {p q n : Nat} {a5 a6 a2 : Nat → Int32} {B : Nat → Nat} {S : Nat × (Nat → Int32)}
theorem forged130 {x o : Nat} (hx : x + 4 ≤ n) (hn : n ≤ 64) (hB : ∀ k, k < n → B k < 256 ∧ a2 k = nI (B k)) : ∃ r j, j < 4 ∧ q_L_isForged_L130 (nI x) (nI o) (nI n) a2 10000 (nI x) 0 = some (nI (x + j), r) := by
  obtain ⟨r, hr, g⟩ := loop_inv (F := fun f (y : Int32 × Int32) => q_L_isForged_L130 (nI x) (nI o) (nI n) a2 f y.1 y.2)
    (fun k y => y.2 = nI k ∧ ∃ j, j < 4 ∧ y.1 = nI (x + j)) (fun r => ∃ j, j < 4 ∧ r.1 = nI (x + j)) 4
    (fun f y hy => by
      obtain ⟨l, v⟩ := y
      obtain ⟨e1, e2⟩ := hy
      replace e1 : v = nI 4 := e1
      subst e1
      exact ⟨_, by show q_L_isForged_L130 _ _ _ _ (f + 1) l (nI 4) = _; rw [q_L_isForged_L130, if_pos (by decide)], e2⟩)
    (fun f k y hk hy => by
      obtain ⟨l, v⟩ := y
      obtain ⟨e1, j, hj, e2⟩ := hy
      replace e1 : v = nI k := e1
      replace e2 : l = nI (x + j) := e2
      subst e1; subst e2
      refine Or.inr ⟨((if (nI (B (x + k)) ^^^ nI o) ≤ (0 : Int32) then nI (x + j) else nI (x + k)), nI (k + 1)), ?_, rfl, ?_⟩
      · show q_L_isForged_L130 _ _ _ _ (f + 1) _ (nI k) = q_L_isForged_L130 _ _ _ _ f _ (nI (k + 1))
        rw [q_L_isForged_L130, if_neg (show ¬ (4 : Int32) ≤ nI k from nI_ge (b := 4) hk (by decide)), nI_add, byteAtT (show x + k < n by omega) hn hB, xbnd_r, nI_1]
      · show ∃ j', j' < 4 ∧ (if (nI (B (x + k)) ^^^ nI o) ≤ (0 : Int32) then nI (x + j) else nI (x + k)) = nI (x + j')
        by_cases c : (nI (B (x + k)) ^^^ nI o) ≤ (0 : Int32)
        · exact ⟨j, hj, if_pos c⟩
        · exact ⟨k, hk, if_neg c⟩)
    10000 0 (nI x, nI 0) ⟨rfl, 0, by omega, rfl⟩ (Nat.zero_le _) (by omega)
  obtain ⟨j, hj, g⟩ := g
  refine ⟨r.2, j, hj, ?_⟩
  have hr' : q_L_isForged_L130 (nI x) (nI o) (nI n) a2 10000 (nI x) 0 = some r := hr
  rw [hr', ← g]
theorem lib0 (hn : n ≤ 64) (hB : ∀ k, k < n → B k < 256 ∧ a2 k = nI (B k)) : q_X11_librarySum 0 (nI n) (nI n) a2 = some (.inr (lN (outS 32 1 lE (reg 32 lP 1 B 0 lE n))), ()) := by
  have := libTT (a := 0) (Nat.zero_le n) (Nat.le_refl n) hn hB
  rw [Nat.sub_zero] at this
  exact this
set_option maxHeartbeats 1000000 in
theorem isForgedT (hS : S.1 ≤ 260) (h4 : 4 ≤ n) (hn : n ≤ 64) (hp : p < 10) (hq : q ≤ 10) (hB : ∀ k, k < n → B k < 256 ∧ a2 k = nI (B k)) :
    ∃ g p' q' a6' a5', p' < 10 ∧ q' ≤ 10 ∧ (∀ k, k < n → g k = nI (B k)) ∧ q_L_isForged S (nI n) (nI n) a2 (nI p) (nI q) (nI 64) a6 a5 = some (1, nI n, g, nI p', nI q', a6', a5') := by
  obtain ⟨x, hx, e1⟩ := someT hS (i := 101) (n := n - 3) (by omega) (by omega) (by omega)
  replace e1 : q_L_some S 101 (nI (n - 3)) = some (nI x) := e1
  obtain ⟨t0, e2⟩ := cellT hS (i := 102) (by omega)
  obtain ⟨t, ht, rfl⟩ := nI_any t0
  replace e2 : q_L_cell S 102 = some (nI t) := e2
  obtain ⟨i0, hi0, e3⟩ := someT hS (i := 103) (n := 4) (by omega) (by omega) (by omega)
  replace e3 : q_L_some S 103 4 = some (nI i0) := e3
  obtain ⟨cc, hcc, e4⟩ := someT hS (i := 104) (n := 255) (by omega) (by omega) (by omega)
  replace e4 : q_L_some S 104 255 = some (nI cc) := e4
  obtain ⟨v, r, a61, a51, v1, v2, r1, f1, s1, s2⟩ := forgeT (a6 := a6) (a5 := a5) (t := t) hp hq hn (show x + 4 ≤ n by omega) ht hB
  have hB' : ∀ k, k < n → wB B x v k < 256 ∧ r k = nI (wB B x v k) := fun k hk => ⟨wB_lt (fun k hk => (hB k hk).1) k hk, r1 k hk⟩
  have l0 := lib0 hn hB
  have l1 := lib0 hn hB'
  have v2' : outS 32 1 lE (reg 32 lP 1 (wB B x v) 0 lE n) = t := v2
  rw [v2'] at l1
  obtain ⟨b0, hb0⟩ : ∃ b0, b0 = wB B x v (x + i0) := ⟨_, rfl⟩
  have b1 := byteAtT (show x + i0 < n by omega) hn hB'
  rw [← hb0] at b1
  have hb2 : b0 < 256 := by rw [hb0]; exact (hB' _ (by omega)).1
  have ho : b0 ^^^ (1 + cc) < 256 := Nat.xor_lt_two_pow (n := 8) hb2 (by omega)
  generalize hoe : b0 ^^^ (1 + cc) = o at ho
  obtain ⟨w0, j, hj, f2⟩ := forged130 (o := o) (show x + 4 ≤ n by omega) hn hB'
  have b3 := byteAtT (show x + j < n by omega) hn hB'
  obtain ⟨a62, a52, f3, s3, s4⟩ := putT (a6 := a61) (a5 := a51) (a2 := r) (p := (p + 1) % 10) (q := min (q + 1) 10) (by omega) (by omega) hn (show x + j < n by omega) ho
  rw [r1 _ (show x + j < n by omega)] at f3
  have s5 : SL a52 a62 p n a2 := s4 p n a2 (by omega) hp hn s1
  have q1 : ((((p + 1) % 10 + 1) % 10 + 9) % 10) = (p + 1) % 10 := by omega
  obtain ⟨g1, u1, u2⟩ := undoT (a6 := a62) (a5 := a52) (a2 := upd r (x + j) (nI o)) (c := nI n) (n := n) (R := r) (p := ((p + 1) % 10 + 1) % 10) (q := min (min (q + 1) 10 + 1) 10) (by omega) (by omega) (by omega) hn (by rw [q1]; exact s3)
  rw [q1] at u1
  have q2 : (((p + 1) % 10 + 9) % 10) = p := by omega
  obtain ⟨g2, u3, u4⟩ := undoT (a6 := a62) (a5 := a52) (a2 := g1) (c := nI n) (n := n) (R := a2) (p := (p + 1) % 10) (q := min (min (q + 1) 10 + 1) 10 - 1) (by omega) (by omega) (by omega) hn (by rw [q2]; exact s5)
  rw [q2] at u3
  have hG1 : ∀ k, k < n → wB B x v k < 256 ∧ g1 k = nI (wB B x v k) := fun k hk => ⟨(hB' k hk).1, by rw [u2 k hk]; exact r1 k hk⟩
  have hG2 : ∀ k, k < n → B k < 256 ∧ g2 k = nI (B k) := fun k hk => ⟨(hB k hk).1, by rw [u4 k hk]; exact (hB k hk).2⟩
  have l2 := lib0 hn hG1
  rw [v2'] at l2
  have l3 := lib0 hn hG2
  refine ⟨g2, p, _, a62, a52, hp, (show min (min (q + 1) 10 + 1) 10 - 1 - 1 ≤ 10 by omega), fun k hk => (hG2 k hk).2, ?_⟩
  have en : nI n - (3 : Int32) = nI (n - 3) := by rw [k3, nI_sub (by omega)]
  have e1c : (1 : Int32) + nI cc = nI (1 + cc) := by rw [k1, nI_add]
  unfold q_L_isForged
  rw [l0, xbnd_r, en, e1, Option.bind_some, e2, Option.bind_some, nI_mask ht, forgeP (by omega) hn, Option.bind_some, if_neg (show ¬ ¬ (-1 : Int32) = -1 from fun z => z rfl), forgeS (by omega) hn, Option.bind_some, if_neg (show ¬ ¬ (-2 : Int32) = -2 from fun z => z rfl), f1, Option.bind_some, if_neg (show ¬ ¬ (0 : Int32) = 0 from fun z => z rfl), l1, xbnd_r, if_lg', e3, Option.bind_some, nI_add, b1, xbnd_r, e4, Option.bind_some, e1c, nI_xor, hoe, f2, Option.bind_some, b3, xbnd_r, f3, Option.bind_some, if_neg (show ¬ ¬ nI (wB B x v (x + j)) = nI (wB B x v (x + j)) from fun z => z rfl)]
  by_cases c : o = wB B x v (x + j)
  · rw [if_pos (congrArg nI c), if_neg (show ¬ (1 : Int32) = 0 by decide), u1, Option.bind_some, if_neg (show ¬ ¬ nI n = nI n from fun z => z rfl), l2, xbnd_r, if_lg, u3, Option.bind_some, if_neg (show ¬ ¬ nI n = nI n from fun z => z rfl), l3, xbnd_r, if_lg]
  · have hC : ∀ k, k < n → (fun k => if k = x + j then o else wB B x v k) k < 256 ∧ upd r (x + j) (nI o) k = nI ((fun k => if k = x + j then o else wB B x v k) k) := by
      intro k hk
      show (if k = x + j then o else wB B x v k) < 256 ∧ _ = nI (if k = x + j then o else wB B x v k)
      by_cases z : k = x + j
      · subst z
        rw [if_pos rfl, upd_eq]
        exact ⟨ho, rfl⟩
      · rw [if_neg z, upd_ne z]
        exact hB' k hk
    have l4 := lib0 hn hC
    have hne := libNe (B := wB B x v) (n := n) (x := x + j) (v := o) (by omega) (hB' _ (by omega)).1 ho c
    rw [v2'] at hne
    have lt4 : outS 32 1 lE (reg 32 lP 1 (fun k => if k = x + j then o else wB B x v k) 0 lE n) < 4294967296 := lib_lt (by decide)
    generalize outS 32 1 lE (reg 32 lP 1 (fun k => if k = x + j then o else wB B x v k) 0 lE n) = y at l4 hne lt4
    rw [if_neg (ne_of_nI c (by omega) (by have := (hB' (x + j) (by omega)).1; omega)), l4, xbnd_r, if_neg (show ¬ lg_cmp (lN y) (lN t) = 0 from fun z => hne ((lN_inj (by omega) (by omega)).mp (lg_eq.mp z))), if_neg (show ¬ (1 : Int32) = 0 by decide), u1, Option.bind_some, if_neg (show ¬ ¬ nI n = nI n from fun z => z rfl), l2, xbnd_r, if_lg, u3, Option.bind_some, if_neg (show ¬ ¬ nI n = nI n from fun z => z rfl), l3, xbnd_r, if_lg]
end FORGED

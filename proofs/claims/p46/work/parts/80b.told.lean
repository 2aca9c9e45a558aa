/-! Drawn numbers; what is told of a row of bytes. -/
theorem stirT {S : Nat × (Nat → Int32)} (hS : S.1 ≤ 260) : ∃ c, q_L_stirred S = some c := by
  obtain ⟨r, hr, -⟩ := loop_inv (F := fun f (y : Int32 × Int32) => q_L_stirred_L14 S (nI S.1) f y.1 y.2)
    (fun k y => y.2 = nI k) (fun _ => True) S.1
    (fun f y hy => by
      obtain ⟨l, v⟩ := y
      have e1 : v = nI S.1 := hy
      subst e1
      exact ⟨_, by show q_L_stirred_L14 _ _ (f + 1) l (nI S.1) = _; rw [q_L_stirred_L14, if_pos (nI_le (Nat.le_refl _) (by omega))], trivial⟩)
    (fun f k y hk hy => by
      obtain ⟨l, v⟩ := y
      have e1 : v = nI k := hy
      subst e1
      have e : q_L_stirred_L14 S (nI S.1) (f + 1) l (nI k) = q_L_stirred_L14 S (nI S.1) f ((l ^^^ (S.2 (nI k).toNatClampNeg)) * 16777619) (nI (k + 1)) := by
        rw [q_L_stirred_L14, if_neg (nI_ge hk (by omega)), if_pos (xinI hk (by omega)), nI_1]
      exact Or.inr ⟨(_, nI (k + 1)), e, rfl⟩)
    10000 0 (nI S.1 + 11, nI 0) rfl (Nat.zero_le _) (by omega)
  have hr' : q_L_stirred_L14 S (nI S.1) 10000 (nI S.1 + 11) 0 = some r := hr
  unfold q_L_stirred
  rw [hr']
  exact ⟨_, rfl⟩
theorem cellT {S : Nat × (Nat → Int32)} (hS : S.1 ≤ 260) {i : Nat} (hi : i < 2147483648) : ∃ c, q_L_cell S (nI i) = some c := by
  obtain ⟨y, hy⟩ := stirT hS
  unfold q_L_cell
  rw [hy, Option.bind_some]
  by_cases c : y = 0
  · rw [if_neg (fun z => z c)]
    by_cases q : S.1 ≤ i
    · rw [if_pos (nI_le q hi)]
      exact ⟨_, rfl⟩
    · rw [if_neg (nI_ge (by omega) (by omega)), if_pos (xinI (by omega) (by omega))]
      exact ⟨_, rfl⟩
  · rw [if_pos c]
    exact ⟨_, rfl⟩
theorem someT {S : Nat × (Nat → Int32)} (hS : S.1 ≤ 260) {i n : Nat} (hi : i < 2147483648) (h0 : 0 < n) (hn : n < 2147483648) : ∃ v, v < n ∧ q_L_some S (nI i) (nI n) = some (nI v) := by
  obtain ⟨c, hc⟩ := cellT hS hi
  obtain ⟨x, hx, rfl⟩ := nI_any c
  refine ⟨x / 2 ^ 3 % n, Nat.mod_lt _ h0, ?_⟩
  unfold q_L_some
  rw [hc, Option.bind_some, if_neg (show ¬ nI n = 0 from ne_of_nI (b := 0) (by omega) hn (by decide)), k3, nI_xus hx (by omega), nI_mod (by omega) h0 hn]
theorem byteAtT {k n : Nat} {B : Nat → Nat} {a2 : Nat → Int32} (hk : k < n) (hn : n ≤ 64) (hB : ∀ k, k < n → B k < 256 ∧ a2 k = nI (B k)) : q_X11_byteAt (nI k) (nI n) a2 = some (.inr (nI (B k)), ()) := by
  unfold q_X11_byteAt
  rw [rpT hk (by omega)]
  show some (Sum.inr (t_X5_at (nI k) 64 a2), ()) = _
  rw [atI (by omega) (by omega), (hB k hk).2]
theorem sG_1 {B : Nat → Nat} : ∀ n, sG 1 B n = sG 0 B n + n := by
  intro n
  induction n with
  | zero => rfl
  | succ n ih =>
    show sG 1 B n + (1 + sF B (n + 1)) = sG 0 B n + (0 + sF B (n + 1)) + (n + 1)
    rw [ih]
    omega
theorem isToldT {n : Nat} {B : Nat → Nat} {a2 a49 : Nat → Int32} (hn : n ≤ 64) (hB : ∀ k, k < n → B k < 256 ∧ a2 k = nI (B k) ∧ a49 k = nI (B k)) : q_L_isTold (nI n) (nI n) a2 a49 = some 1 := by
  have hB2 : ∀ k, k < n → B k < 256 ∧ a2 k = nI (B k) := fun k hk => ⟨(hB k hk).1, (hB k hk).2.1⟩
  obtain ⟨r, hr, g1, g2⟩ := loop_inv (F := fun f (y : Int32 × Int32 × Int32) => q_L_isTold_L7 (nI n) (nI n) a2 a49 f y.1 y.2.1 y.2.2)
    (fun k y => y.1 = nI (sF B k) ∧ y.2.1 = nI (sG 0 B k) ∧ y.2.2 = nI k) (fun r => r.1 = nI (sF B n) ∧ r.2.1 = nI (sG 0 B n)) n
    (fun f y hy => by
      obtain ⟨l, c, v⟩ := y
      obtain ⟨e1, e2, e3⟩ := hy
      replace e3 : v = nI n := e3
      subst e3
      exact ⟨_, by show q_L_isTold_L7 _ _ _ _ (f + 1) l c (nI n) = _; rw [q_L_isTold_L7, if_pos (nI_le (Nat.le_refl _) (by omega))], e1, e2⟩)
    (fun f k y hk hy => by
      obtain ⟨l, c, v⟩ := y
      obtain ⟨e1, e2, e3⟩ := hy
      replace e1 : l = nI (sF B k) := e1
      replace e2 : c = nI (sG 0 B k) := e2
      replace e3 : v = nI k := e3
      subst e1; subst e2; subst e3
      refine Or.inr ⟨(nI (sF B (k + 1)), nI (sG 0 B (k + 1)), nI (k + 1)), ?_, rfl, rfl, rfl⟩
      show q_L_isTold_L7 _ _ _ _ (f + 1) (nI _) (nI _) (nI k) = q_L_isTold_L7 _ _ _ _ f _ _ _
      rw [q_L_isTold_L7, if_neg (nI_ge hk (by omega)), byteAtT hk hn hB2]
      show (if xin (nI k) 64 = true then _ else _) = _
      rw [if_pos (xinI (by omega) (by omega)), nI_clamp (by omega), (hB k hk).2.2, if_pos rfl, if_pos (xinI (by omega) (by omega)), nI_add, nI_add, nI_1]
      show _ = q_L_isTold_L7 _ _ _ _ f (nI (sF B k + B k)) (nI (sG 0 B k + (0 + (sF B k + B k)))) (nI (k + 1))
      rw [Nat.zero_add])
    10000 0 (nI 0, nI 0, nI 0) ⟨rfl, rfl, rfl⟩ (Nat.zero_le _) (by omega)
  obtain ⟨u, u1, u2, u3⟩ := sumsC (m := 255) (n := n) (s := 0) (B := B) (a2 := a2) (F := q_X11_fletcher_L6 (nI n) a2) (by omega) (by omega) hn hB2
    (fun f l1 l2 => by rw [q_X11_fletcher_L6, t_X5_size, if_pos (nI_le (Nat.le_refl n) (by omega))])
    (fun f i l1 l2 hi => by rw [q_X11_fletcher_L6, t_X5_size, if_neg (nI_ge hi (by omega)), atI (by omega) (by omega), nI_1]; rfl) (by omega)
  obtain ⟨x, x1, x2, x3⟩ := sumsC (m := 65521) (n := n) (s := 1) (B := B) (a2 := a2) (F := q_X11_adler_L6 (nI n) a2) (by omega) (by omega) hn hB2
    (fun f l1 l2 => by rw [q_X11_adler_L6, t_X5_size, if_pos (nI_le (Nat.le_refl n) (by omega))])
    (fun f i l1 l2 hi => by rw [q_X11_adler_L6, t_X5_size, if_neg (nI_ge hi (by omega)), atI (by omega) (by omega), nI_1]; rfl) (by omega)
  have hF := sF_le (fun k hk => (hB k hk).1) n (Nat.le_refl n)
  have hG := sG_le (a := 0) (by omega) hn (fun k hk => (hB k hk).1) n (Nat.le_refl n)
  have hr' : q_L_isTold_L7 (nI n) (nI n) a2 a49 10000 0 0 0 = some r := hr
  have u1' : q_X11_fletcher_L6 (nI n) a2 10000 0 0 0 = some u := u1
  have x1' : q_X11_adler_L6 (nI n) a2 10000 1 0 0 = some x := x1
  have eF : q_X11_fletcher (nI n) a2 = some (256 * nI (sG 0 B n % 255) + nI (sF B n % 255)) := by
    unfold q_X11_fletcher
    rw [u1', Option.bind_some, u2, u3, Nat.zero_add]
  have eA : q_X11_adler (nI n) a2 = some (65536 * (nI (sG 1 B n % 65521)).toInt64 + (nI ((1 + sF B n) % 65521)).toInt64) := by
    unfold q_X11_adler
    rw [x1', Option.bind_some, x2, x3]
  unfold q_L_isTold
  rw [hr', Option.bind_some, g1, g2, eF, Option.bind_some, show (255 : Int32) = nI 255 from rfl, nI_mod (by omega) (by omega) (by omega), nI_mod (by omega) (by omega) (by omega), if_neg (fun z => z rfl), eA, Option.bind_some, nI_add, nI_1, show (65521 : Int32) = nI 65521 from rfl, nI_mod (by omega) (by omega) (by omega), nI_mod (by omega) (by omega) (by omega), sG_1, Nat.add_comm 1 (sF B n), if_neg (fun z => z (lgs _))]

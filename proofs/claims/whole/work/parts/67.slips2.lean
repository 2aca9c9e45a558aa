/-! The calls unseenSlip and best. -/
theorem zR32 {w p : Nat} (h1 : 1 ≤ w) (h : w ≤ 32) (hp : p < 2 ^ w) : ∀ k, zR w p k < 4294967296 := fun k => Nat.lt_of_lt_of_le (zR_lt h1 hp k) (pow_le h)
theorem i24T {f : Nat} (h1 : 2 ≤ f) (h4 : f ≤ 4) : t_X12_in (nI f).toInt64 2 4 = 1 := in_T (by rw [tl, nI_toInt (by omega)]; show (2 : Int) ≤ _; omega) (by rw [tl, nI_toInt (by omega)]; show _ ≤ (4 : Int); omega)
theorem i24F {p : Int32} (h : p.toInt < 2 ∨ (5 : Int) ≤ p.toInt) : t_X12_in p.toInt64 2 4 = 0 := in_F (by rw [tl]; show _ < (2 : Int) ∨ (4 : Int) < _; omega)
theorem sokF {p : Int32} {a16 : Nat → Int32} {a b : Int32} (h : p.toInt < 2 ∨ (5 : Int) ≤ p.toInt) : q_X11_slipOfKind p a16 a b = some (.inl 0, a16) := by
  unfold q_X11_slipOfKind
  by_cases c : p < 2
  · rw [if_pos c]
  · rw [if_neg c]
    rw [ltI, show (2 : Int32).toInt = 2 from rfl] at c
    rw [if_neg (by rw [leI, show (4 : Int32).toInt = 4 from rfl]; omega)]
theorem leastN {R : Nat → Nat} {a16 : Nat → Int32} {m f : Nat} (hm : m ≤ 48) (hR : ∀ k, R k < 4294967296) (ha : ∀ k, k < m → a16 k = nI (R k)) (hf : f = 2 ∨ f = 3 ∨ f = 4) (hs : sL R f m = none) : q_X7_leastWithin (nI f) (nI m) a16 = some 0 := by
  rw [leastC hm hR ha hf, hs]
theorem leastS {R : Nat → Nat} {a16 : Nat → Int32} {m f n v : Nat} (hm : m ≤ 48) (hR : ∀ k, R k < 4294967296) (ha : ∀ k, k < m → a16 k = nI (R k)) (hf : f = 2 ∨ f = 3 ∨ f = 4) (hs : sL R f m = some n) (hv : sU R f n = some v) : q_X7_leastWithin (nI f) (nI m) a16 = some (lN v) := by
  have h := leastC hm hR ha hf
  rw [hs] at h
  dsimp only at h
  rw [hv] at h
  exact h
theorem sokT {f w p : Nat} {a16 : Nat → Int32} (h2 : 2 ≤ f) (h4 : f ≤ 4) (h1 : 1 ≤ w) (h : w ≤ 32) (hp : p < 2 ^ w) : ∃ g, q_X11_slipOfKind (nI f) a16 (nI w) (nI p) = some (.inr (match sL (zR w p) f 48 with | none => 0 | some n => match sU (zR w p) f n with | none => 0 | some v => lN v), g) := by
  obtain ⟨g, e1, e2⟩ := restsC (n := 48) (a16 := a16) h1 h hp (Nat.le_refl _)
  refine ⟨g, ?_⟩
  unfold q_X11_slipOfKind q_X7_leastUnseen
  rw [if_neg (show ¬ nI f < 2 from nI_nlt (b := 2) h2 (by omega)), if_pos (show nI f ≤ 4 from nI_le (b := 4) h4 (by decide)), show (48 : Int32) = nI 48 from rfl, e1, Option.bind_some, leastC (Nat.le_refl _) (zR32 h1 h hp) e2 (by omega), Option.bind_some, Option.bind_some]
  rfl
theorem lN0 {v : Nat} (h : v < 9223372036854775808) (h0 : v ≠ 0) : ¬ lg_cmp (lN v) 0 = 0 := by
  rw [lg_eq, show (0 : Int64) = lN 0 from rfl, lN_inj (by omega) (by omega)]
  exact h0
theorem M_24 : MS_24 := by
  intro S l4 a16 c8_0 c8_1 a66 c48_24 c48_26 a62 c1_1 a2 c48_17 a49 c3_1 c3_2 c4_0 a5 a6 c48_20 a52 c8_2 c8_3 c8_4 c8_5 c48_25 c48_27 c48_28 c7_0 c7_1 c7_2 c7_3 c7_4 c7_5 a10 a11 a53 c17_1 a18 c48_21 a57 c23_4 c24_0 a25 a26 c48_22 a58 a22 x1 x2 x3 x4 x5 hB hP hK h7 hS hD hW hC
  obtain ⟨w, p, s, e, m, h1, h, hp, -, -, -, -, rfl, rfl, -, -, -, -, rfl, -, rfl, -, -⟩ := hK
  unfold q_case24
  generalize S.2 (l4 + (1 : Int32)).toNatClampNeg = p1
  rcases cls2 p1 (a := 2) (b := 4) (by omega) with ⟨f, h2, h4, rfl⟩ | h2
  · obtain ⟨g, g1⟩ := sokT (a16 := a16) h2 h4 h1 h hp
    obtain ⟨u, u1, u2⟩ := powersM (a62 := a62) h1 h hp
    have e1 := lastM (f := f) (b := 48) (zR32 h1 h hp) u2 (Nat.le_refl _) (by omega)
    have e1 : q_X12_lastOf (nI f) 48 u = _ := e1
    cases hs : sL (zR w p) f 48 with
    | none =>
      rw [hs] at g1 e1
      simp only [x1, if_true, q_L_unseenSlip, q_X11_unseenSlip, g1, xbnd, lgs, ite00, ite0e, Option.bind_some, q_X12_unseenSlip, i24T h2 h4, ite10, u1, e1, if_neg (show ¬ ¬ (-1 : Int32) = -1 from fun h => h rfl), if_neg (show ¬ ¬ (0 : Int32) = 0 from fun h => h rfl), t_X12_fails, t_X12_thrown]
      exact ⟨_, rfl⟩
    | some n =>
      rw [hs] at g1 e1
      obtain ⟨hn, hn1, hn2⟩ := fo_lt _ _ _ hs
      obtain ⟨v, hv⟩ := Option.isSome_iff_exists.mp hn2
      have g1 : q_X11_slipOfKind (nI f) a16 (nI w) (nI p) = some (.inr (match sU (zR w p) f n with | none => 0 | some v => lN v), g) := g1
      rw [hv] at g1
      have hv2 := sU_lt (by omega) hv
      have e2 := atM (f := f) (n := n) (zR32 h1 h hp) u2 (by omega) (by omega)
      rw [hv] at e2
      have c1 : ¬ nI n = -1 := fun h => by
        have := (nI_inj (a := n) (b := 4294967295) (by omega) (by decide)).mp h
        omega
      simp only [x1, if_true, q_L_unseenSlip, q_X11_unseenSlip, g1, xbnd, if_pos (lN0 (show v < 9223372036854775808 by omega) hv2.2), Option.bind_some, q_X12_unseenSlip, i24T h2 h4, ite10, u1, e1, if_pos c1, e2, t_X12_tellsLong, t_X12_thrown, ite00, c0, updL_eq, lgs]
      exact ⟨_, rfl⟩
  · simp only [x1, if_true, q_L_unseenSlip, q_X11_unseenSlip, sokF h2, xbnd, Option.bind_some, q_X12_unseenSlip, i24F h2, ite00, ite10, t_X12_fails, t_X12_thrown]
    exact ⟨_, rfl⟩
/-- the fewest turned bits of a slip that is not seen, or 5 -/
def sF5 (R : Nat → Nat) (b : Nat) : Nat := match fo (fun f => (sL R f b).isSome) 2 3 with | none => 5 | some f => f
theorem sF5_le (R : Nat → Nat) (b : Nat) : sF5 R b ≤ 5 ∧ 2 ≤ sF5 R b := by
  unfold sF5
  split
  · omega
  · rename_i f hf
    have := fo_lt _ _ _ hf
    omega
theorem fewC {w p b : Nat} {a16 : Nat → Int32} (h1 : 1 ≤ w) (h : w ≤ 32) (hp : p < 2 ^ w) (hb : b ≤ 48) : ∃ g, q_X7_fewestFlips (nI b) a16 (nI w) (nI p) = some (nI (sF5 (zR w p) b), g) := by
  obtain ⟨g, e1, e2⟩ := restsC (n := b) (a16 := a16) h1 h hp hb
  refine ⟨g, ?_⟩
  have hl := find_loop2 (F := fun k j => q_X7_fewestFlips_L8 (nI b) g k j) (P := fun f => (sL (zR w p) f b).isSome) (N := 5) (b := 2) (stop := fun i => Sum.inl (nI i)) (hit := fun n => Sum.inr (nI n))
    (fun k i q1 q2 => by show q_X7_fewestFlips_L8 _ _ (k + 1) (nI i) = _; rw [q_X7_fewestFlips_L8, if_pos (show (4 : Int32) < nI i from nI_lt (a := 4) (by omega) (by omega))])
    (fun k f q0 q1 => by
      show q_X7_fewestFlips_L8 _ _ (k + 1) (nI f) = _
      rw [q_X7_fewestFlips_L8, if_neg (show ¬ (4 : Int32) < nI f from nI_nlt (a := 4) (by omega) (by decide)), nI_1]
      cases hs : sL (zR w p) f b with
      | none => rw [leastN hb (zR32 h1 h hp) e2 (by omega) hs, Option.bind_some, if_pos (lgs 0)]; rfl
      | some n =>
        obtain ⟨hn, hn1, hn2⟩ := fo_lt _ _ _ hs
        obtain ⟨v, hv⟩ := Option.isSome_iff_exists.mp hn2
        have hv2 := sU_lt (by omega) hv
        rw [leastS hb (zR32 h1 h hp) e2 (by omega) hs hv, Option.bind_some, if_neg (lN0 (by omega) hv2.2)]
        rfl)
    (by omega) 3 2 10000 rfl (Nat.le_refl _) (by omega) (by omega)
  unfold q_X7_fewestFlips
  have hl' : q_X7_fewestFlips_L8 (nI b) g 10000 2 = _ := hl
  rw [e1, Option.bind_some, hl']
  unfold sF5
  show xlp (some (match fo _ 2 3 with | none => _ | some j => _)) _ _ = _
  cases fo (fun f => (sL (zR w p) f b).isSome) 2 3 with
  | none => rfl
  | some f => rfl
theorem fewM {w p b : Nat} {a62 : Nat → Int64} (h1 : 1 ≤ w) (h : w ≤ 32) (hp : p < 2 ^ w) (hb : b ≤ 48) (ha : ∀ k, k < 48 → a62 k = lN (zR w p k)) : q_X12_best_L61 (nI b) a62 10000 2 = some (nI (sF5 (zR w p) b)) := by
  have hl := find_loop2 (F := fun k j => q_X12_best_L61 (nI b) a62 k j) (P := fun f => (sL (zR w p) f b).isSome) (N := 5) (b := 2) (stop := fun i => nI i) (hit := fun n => nI n)
    (fun k i q1 q2 => by show q_X12_best_L61 _ _ (k + 1) (nI i) = _; rw [q_X12_best_L61, if_pos (show (5 : Int32) ≤ nI i from nI_le (a := 5) (by omega) (by omega))])
    (fun k f q0 q1 => by
      show q_X12_best_L61 _ _ (k + 1) (nI f) = _
      rw [q_X12_best_L61, if_neg (show ¬ (5 : Int32) ≤ nI f from nI_ge (b := 5) (by omega) (by decide)), lastM (zR32 h1 h hp) ha hb (by omega), Option.bind_some, nI_1]
      cases hs : sL (zR w p) f b with
      | none => rw [if_neg (show ¬ ¬ (-1 : Int32) = -1 from fun h => h rfl)]; rfl
      | some n =>
        obtain ⟨hn, hn1, hn2⟩ := fo_lt _ _ _ hs
        have c1 : ¬ nI n = -1 := fun h => by
          have := (nI_inj (a := n) (b := 4294967295) (by omega) (by decide)).mp h
          omega
        rw [if_pos c1]
        rfl)
    (by omega) 3 2 10000 rfl (Nat.le_refl _) (by omega) (by omega)
  have hl' : q_X12_best_L61 (nI b) a62 10000 2 = _ := hl
  rw [hl']
  unfold sF5
  show some (match fo _ 2 3 with | none => _ | some j => _) = _
  cases fo (fun f => (sL (zR w p) f b).isSome) 2 3 with
  | none => rfl
  | some f => rfl
/-- the best one, and its fewest turned bits, of t tried ones -/
def bS (w b : Nat) : Nat → Nat × Nat
  | 0 => (0, 0)
  | t + 1 => if sF5 (zR w (2 * t + 1)) b ≤ (bS w b t).2 then bS w b t else (2 * t + 1, sF5 (zR w (2 * t + 1)) b)
theorem bS_le (w b : Nat) : ∀ t, (bS w b t).2 ≤ 5 := by
  intro t
  induction t with
  | zero => show 0 ≤ 5; omega
  | succ t ih =>
    show (if _ then _ else _ : Nat × Nat).2 ≤ 5
    split
    · exact ih
    · exact (sF5_le _ _).1
theorem tell0 (a b c d : Int32) : t_X1_tell a b c d 0 = (a, b, c, d, 0, 0) := by
  unfold t_X1_tell
  rw [if_pos (by decide), if_pos (by decide)]
theorem two_w {w : Nat} (h1 : 1 ≤ w) : 2 ^ w = 2 * 2 ^ (w - 1) := by
  obtain ⟨k, rfl⟩ : ∃ k, w = k + 1 := ⟨w - 1, by omega⟩
  rw [Nat.pow_succ, Nat.mul_comm]
  rfl
theorem shl1 {w : Nat} (h7 : w ≤ 7) : (1 : Int32) <<< (nI w &&& 31) = nI (2 ^ w) := by
  rw [k1, nI_shl 1 (by omega), Nat.one_mul]
theorem iteI {a b : Nat} {x y : Nat} (ha : a < 2147483648) (hb : b < 2147483648) : (if nI a ≤ nI b then nI x else nI y) = nI (if a ≤ b then x else y) := by
  by_cases c : a ≤ b
  · rw [if_pos c, if_pos (nI_le c hb)]
  · rw [if_neg c, if_neg (nI_ge (by omega) ha)]
theorem bestC {w b : Nat} {a16 : Nat → Int32} {k0' k1' k2' k3' k4' k5' : Int32} (h1 : 2 ≤ w) (h7 : w ≤ 7) (hb : b ≤ 48) : ∃ r, q_X11_best_L52 (nI w) (nI b) 10000 0 0 1 k0' k1' k2' k3' k4' k5' a16 = some r ∧ r.1 = nI (bS w b (2 ^ (w - 1))).1 := by
  have hw2 := two_w (w := w) (by omega)
  have hw64 : 2 ^ (w - 1) ≤ 64 := Nat.pow_le_pow_right (n := 2) (by decide) (show w - 1 ≤ 6 by omega)
  obtain ⟨r, hr, g⟩ := loop_inv (F := fun k (x : Int32 × Int32 × Int32 × Int32 × Int32 × Int32 × Int32 × Int32 × Int32 × (Nat → Int32)) => q_X11_best_L52 (nI w) (nI b) k x.1 x.2.1 x.2.2.1 x.2.2.2.1 x.2.2.2.2.1 x.2.2.2.2.2.1 x.2.2.2.2.2.2.1 x.2.2.2.2.2.2.2.1 x.2.2.2.2.2.2.2.2.1 x.2.2.2.2.2.2.2.2.2)
    (fun t x => x.1 = nI (bS w b t).1 ∧ x.2.1 = nI (bS w b t).2 ∧ x.2.2.1 = nI (2 * t + 1)) (fun r => r.1 = nI (bS w b (2 ^ (w - 1))).1) (2 ^ (w - 1))
    (fun k x hx => by
      obtain ⟨c1, c2, c3, d0, d1, d2, d3, d4, d5, v⟩ := x
      obtain ⟨e1, e2, e3⟩ := hx
      have e3 : c3 = nI (2 * 2 ^ (w - 1) + 1) := e3
      subst e3
      exact ⟨_, by show q_X11_best_L52 _ _ (k + 1) c1 c2 (nI _) d0 d1 d2 d3 d4 d5 v = _; rw [q_X11_best_L52, shl1 h7, if_pos (nI_le (by omega) (by omega))], e1⟩)
    (fun k t x ht hx => by
      obtain ⟨c1, c2, c3, d0, d1, d2, d3, d4, d5, v⟩ := x
      obtain ⟨e1, e2, e3⟩ := hx
      have e1 : c1 = nI (bS w b t).1 := e1
      have e2 : c2 = nI (bS w b t).2 := e2
      have e3 : c3 = nI (2 * t + 1) := e3
      subst e1; subst e2; subst e3
      have q5 := sF5_le (zR w (2 * t + 1)) b
      have qb := bS_le w b t
      obtain ⟨g, hg⟩ := fewC (w := w) (p := 2 * t + 1) (b := b) (a16 := v) (by omega) (by omega) (by omega) hb
      refine Or.inr ⟨(nI (bS w b (t + 1)).1, nI (bS w b (t + 1)).2, nI (2 * (t + 1) + 1), nI w, nI (2 * t + 1), 0, 0, 0, 0, g), ?_, rfl, rfl, rfl⟩
      show q_X11_best_L52 _ _ (k + 1) (nI _) (nI _) (nI _) d0 d1 d2 d3 d4 d5 v = q_X11_best_L52 _ _ k _ _ _ _ _ _ _ _ _ _
      rw [q_X11_best_L52, shl1 h7, if_neg (nI_ge (by omega) (by omega)), tell0]
      show Option.bind (q_X7_fewestFlips (nI b) v (nI w) (nI (2 * t + 1))) _ = _
      rw [hg, Option.bind_some]
      show q_X11_best_L52 _ _ k (if nI (sF5 (zR w (2 * t + 1)) b) ≤ nI (bS w b t).2 then nI (bS w b t).1 else nI (2 * t + 1)) (if nI (sF5 (zR w (2 * t + 1)) b) ≤ nI (bS w b t).2 then nI (bS w b t).2 else nI (sF5 (zR w (2 * t + 1)) b)) (nI (2 * t + 1) + 2) _ _ _ _ _ _ g = _
      rw [iteI (by omega) (by omega), iteI (by omega) (by omega), k2, nI_add]
      have es : bS w b (t + 1) = if sF5 (zR w (2 * t + 1)) b ≤ (bS w b t).2 then bS w b t else (2 * t + 1, sF5 (zR w (2 * t + 1)) b) := rfl
      rw [es]
      by_cases c : sF5 (zR w (2 * t + 1)) b ≤ (bS w b t).2
      · rw [if_pos c, if_pos c, if_pos c]; rfl
      · rw [if_neg c, if_neg c, if_neg c]; rfl)
    10000 0 (0, 0, 1, k0', k1', k2', k3', k4', k5', a16) ⟨rfl, rfl, rfl⟩ (Nat.zero_le _) (by omega)
  exact ⟨r, hr, g⟩
theorem bestM {w b : Nat} {a62 : Nat → Int64} (h1 : 2 ≤ w) (h7 : w ≤ 7) (hb : b ≤ 48) : ∃ r, q_X12_best_L42 (nI w) (nI b) 10000 0 0 1 a62 = some r ∧ r.1 = nI (bS w b (2 ^ (w - 1))).1 := by
  have hw2 := two_w (w := w) (by omega)
  have hw64 : 2 ^ (w - 1) ≤ 64 := Nat.pow_le_pow_right (n := 2) (by decide) (show w - 1 ≤ 6 by omega)
  obtain ⟨r, hr, g⟩ := loop_inv (F := fun k (x : Int32 × Int32 × Int32 × (Nat → Int64)) => q_X12_best_L42 (nI w) (nI b) k x.1 x.2.1 x.2.2.1 x.2.2.2)
    (fun t x => x.1 = nI (bS w b t).1 ∧ x.2.1 = nI (bS w b t).2 ∧ x.2.2.1 = nI (2 * t + 1)) (fun r => r.1 = nI (bS w b (2 ^ (w - 1))).1) (2 ^ (w - 1))
    (fun k x hx => by
      obtain ⟨c1, c2, c3, v⟩ := x
      obtain ⟨e1, e2, e3⟩ := hx
      have e3 : c3 = nI (2 * 2 ^ (w - 1) + 1) := e3
      subst e3
      exact ⟨_, by show q_X12_best_L42 _ _ (k + 1) c1 c2 (nI _) v = _; rw [q_X12_best_L42, shl1 h7, if_pos (nI_le (by omega) (by omega))], e1⟩)
    (fun k t x ht hx => by
      obtain ⟨c1, c2, c3, v⟩ := x
      obtain ⟨e1, e2, e3⟩ := hx
      have e1 : c1 = nI (bS w b t).1 := e1
      have e2 : c2 = nI (bS w b t).2 := e2
      have e3 : c3 = nI (2 * t + 1) := e3
      subst e1; subst e2; subst e3
      have q5 := sF5_le (zR w (2 * t + 1)) b
      have qb := bS_le w b t
      obtain ⟨g, hg, hg2⟩ := powersM (w := w) (p := 2 * t + 1) (a62 := v) (by omega) (by omega) (by omega)
      refine Or.inr ⟨(nI (bS w b (t + 1)).1, nI (bS w b (t + 1)).2, nI (2 * (t + 1) + 1), g), ?_, rfl, rfl, rfl⟩
      show q_X12_best_L42 _ _ (k + 1) (nI _) (nI _) (nI _) v = q_X12_best_L42 _ _ k _ _ _ _
      rw [q_X12_best_L42, shl1 h7, if_neg (nI_ge (by omega) (by omega)), nI_l (by omega), hg, Option.bind_some, fewM (by omega) (by omega) (by omega) hb hg2, Option.bind_some]
      rw [iteI (by omega) (by omega), iteI (by omega) (by omega), k2, nI_add]
      have es : bS w b (t + 1) = if sF5 (zR w (2 * t + 1)) b ≤ (bS w b t).2 then bS w b t else (2 * t + 1, sF5 (zR w (2 * t + 1)) b) := rfl
      rw [es]
      by_cases c : sF5 (zR w (2 * t + 1)) b ≤ (bS w b t).2
      · rw [if_pos c, if_pos c, if_pos c]; rfl
      · rw [if_neg c, if_neg c, if_neg c]; rfl)
    10000 0 (0, 0, 1, a62) ⟨rfl, rfl, rfl⟩ (Nat.zero_le _) (by omega)
  exact ⟨r, hr, g⟩
theorem M_25 : MS_25 := by
  intro S l4 c9_0 c9_1 c9_2 c9_3 c9_4 c9_5 a16 a66 a62 c1_1 a2 c48_17 a49 c3_1 c3_2 c4_0 a5 a6 c48_20 a52 c8_0 c8_1 c8_2 c8_3 c8_4 c8_5 c48_24 c48_25 c48_26 c48_27 c48_28 c7_0 c7_1 c7_2 c7_3 c7_4 c7_5 a10 a11 a53 c17_1 a18 c48_21 a57 c23_4 c24_0 a25 a26 c48_22 a58 a22 x1 x2 x3 x4 x5 hB hP hK h7 hS hD hW hC
  unfold q_case25
  generalize S.2 (l4 + (1 : Int32)).toNatClampNeg = p1
  generalize S.2 (l4 + (2 : Int32)).toNatClampNeg = p2
  have i1T : ∀ w, 2 ≤ w → w ≤ 7 → t_X12_in (nI w).toInt64 2 7 = 1 := fun w h1 h2 => in_T (by rw [tl, nI_toInt (by omega)]; show (2 : Int) ≤ _; omega) (by rw [tl, nI_toInt (by omega)]; show _ ≤ (7 : Int); omega)
  have i2T : ∀ w, 2 ≤ w → w ≤ 20 → t_X12_in (nI w).toInt64 2 20 = 1 := fun w h1 h2 => in_T (by rw [tl, nI_toInt (by omega)]; show (2 : Int) ≤ _; omega) (by rw [tl, nI_toInt (by omega)]; show _ ≤ (20 : Int); omega)
  rcases cls2 p1 (a := 2) (b := 7) (by omega) with ⟨w, h1, h7, rfl⟩ | h
  · rcases cls2 p2 (a := 2) (b := 20) (by omega) with ⟨b, b1, b2, rfl⟩ | h2
    · obtain ⟨r, r1, r2⟩ := bestC (a16 := a16) (k0' := c9_0) (k1' := c9_1) (k2' := c9_2) (k3' := c9_3) (k4' := c9_4) (k5' := c9_5) h1 h7 (show b ≤ 48 by omega)
      obtain ⟨u, u1, u2⟩ := bestM (a62 := a62) h1 h7 (show b ≤ 48 by omega)
      have g1 : ¬ nI w < (2 : Int32) := nI_nlt (b := 2) h1 (by omega)
      have g2 : nI w ≤ (7 : Int32) := nI_le (b := 7) h7 (by decide)
      have g3 : ¬ nI b < (2 : Int32) := nI_nlt (b := 2) b1 (by omega)
      have g4 : nI b ≤ (20 : Int32) := nI_le (b := 20) b2 (by decide)
      simp only [x1, x2, if_true, q_L_best, q_X11_best, if_neg g1, if_pos g2, if_neg g3, if_pos g4, r1, Option.bind_some, xbnd, q_X12_best, i1T w h1 h7, i2T b b1 b2, ite1e, ite10, u1, t_X12_tells, t_X12_thrown, ite00, c0, updL_eq, r2, u2, lgs]
      exact ⟨_, rfl⟩
    · have i2F : t_X12_in p2.toInt64 2 20 = 0 := in_F (by rw [tl]; show _ < (2 : Int) ∨ (20 : Int) < _; omega)
      have e : ∃ o, q_X11_best (nI w) p2 c9_0 c9_1 c9_2 c9_3 c9_4 c9_5 a16 = some (.inl 0, o) := by
        have g1 : ¬ nI w < (2 : Int32) := nI_nlt (b := 2) h1 (by omega)
        have g2 : nI w ≤ (7 : Int32) := nI_le (b := 7) h7 (by decide)
        unfold q_X11_best
        rw [if_neg g1, if_pos g2]
        by_cases c : p2 < 2
        · exact ⟨_, by rw [if_pos c]⟩
        · rw [if_neg c]
          rw [ltI, show (2 : Int32).toInt = 2 from rfl] at c
          exact ⟨_, by rw [if_neg (by rw [leI, show (20 : Int32).toInt = 20 from rfl]; omega)]⟩
      obtain ⟨o, e⟩ := e
      simp only [x1, x2, if_true, q_L_best, e, xbnd, Option.bind_some, q_X12_best, i1T w h1 h7, i2F, ite1e, ite00, ite10, t_X12_fails, t_X12_thrown]
      exact ⟨_, rfl⟩
  · have i1F : t_X12_in p1.toInt64 2 7 = 0 := in_F (by rw [tl]; show _ < (2 : Int) ∨ (7 : Int) < _; omega)
    have e : ∃ o, q_X11_best p1 p2 c9_0 c9_1 c9_2 c9_3 c9_4 c9_5 a16 = some (.inl 0, o) := by
      unfold q_X11_best
      by_cases c : p1 < 2
      · exact ⟨_, by rw [if_pos c]⟩
      · rw [if_neg c]
        rw [ltI, show (2 : Int32).toInt = 2 from rfl] at c
        exact ⟨_, by rw [if_neg (by rw [leI, show (7 : Int32).toInt = 7 from rfl]; omega)]⟩
    obtain ⟨o, e⟩ := e
    simp only [x1, x2, if_true, q_L_best, e, xbnd, Option.bind_some, q_X12_best, i1F, ite0e, ite10, t_X12_fails, t_X12_thrown]
    exact ⟨_, rfl⟩

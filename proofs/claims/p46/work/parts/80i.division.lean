/-! Division with a rest; what divides both. -/
theorem pdv_0 (Q : Nat) : pdv Q 0 := ⟨0, 0, by decide, rfl⟩
theorem pdv_mul {G Q : Nat} (h : pdv G Q) (u : Nat) : ∀ k, pdv G (cm u Q k) := by
  intro k
  induction k with
  | zero => exact pdv_0 G
  | succ k ih =>
    cases c : u.testBit k with
    | true => rw [cm_T c]; exact pdv_xor ih (pdv_sh k h)
    | false => rw [cm_F c]; exact ih
theorem euclidC : ∀ n P Q i f (w w' : Int64), Q < 2 ^ n → n ≤ 96 → i + n ≤ 190 → n < f → P < 2 ^ 96 →
    ∃ (G : Nat) (r : Int32 × Int64 × Int64 × Int64 × Int64 × Int64 × Int64), G < 2 ^ 96 ∧ q_X11_common_L14 f (nI i) (pL P) (pH P) (pL Q) (pH Q) w w' = some r ∧ r.2.1 = pL G ∧ r.2.2.1 = pH G ∧ pdv G P ∧ pdv G Q ∧ (P ≠ 0 ∨ Q ≠ 0 → G ≠ 0) := by
  intro n
  induction n with
  | zero =>
    intro P Q i f w w' h1 h2 h3 h4 h5
    obtain ⟨f, rfl⟩ : ∃ g, f = g + 1 := ⟨f - 1, by omega⟩
    have : Q = 0 := by omega
    subst this
    exact ⟨P, _, h5, by rw [q_X11_common_L14, if_neg (show ¬ (190 : Int32) < nI i by rw [ltI, nI_toInt (by omega), show (190 : Int32).toInt = 190 from rfl]; omega), isZ (Nat.two_pow_pos 96), if_pos rfl, ite10], rfl, rfl, pdv_self P, pdv_0 P, fun z => z.elim id (fun y => absurd rfl y)⟩
  | succ n ih =>
    intro P Q i f w w' h1 h2 h3 h4 h5
    obtain ⟨f, rfl⟩ : ∃ g, f = g + 1 := ⟨f - 1, by omega⟩
    have hQ : Q < 2 ^ 96 := Nat.lt_of_lt_of_le h1 (Nat.pow_le_pow_right (by decide) h2)
    by_cases z : Q = 0
    · subst z
      exact ⟨P, _, h5, by rw [q_X11_common_L14, if_neg (show ¬ (190 : Int32) < nI i by rw [ltI, nI_toInt (by omega), show (190 : Int32).toInt = 190 from rfl]; omega), isZ (Nat.two_pow_pos 96), if_pos rfl, ite10], rfl, rfl, pdv_self P, pdv_0 P, fun z => z.elim id (fun y => absurd rfl y)⟩
    · rcases dg_cases hQ with ⟨e, -⟩ | ⟨-, h95, e, hl, hg⟩
      · exact absurd e z
      have hb : Q.log2 ≤ n := by have := (Nat.log2_lt z).mpr h1; omega
      have hr := dv_rest hg hl (96 - Q.log2) P 0 (by rw [show 96 - Q.log2 + Q.log2 = 96 by omega]; exact h5)
      have hlv := leaveC h5 hQ z
      obtain ⟨u, u1, u2, u3⟩ := dv_cm (Q := Q) (b := Q.log2) (96 - Q.log2) P 0
      generalize (dv Q Q.log2 (96 - Q.log2) P 0).1 = R at hr hlv u3
      generalize (dv Q Q.log2 (96 - Q.log2) P 0).2 = T at hlv
      have hR : R < 2 ^ n := Nat.lt_of_lt_of_le hr (Nat.pow_le_pow_right (by decide) hb)
      obtain ⟨G, r, g1, r1, r2, r3, d1, d2, d3⟩ := ih Q R (i + 1) f (pL R) (pH R) hR (by omega) (by omega) (by omega) hQ
      refine ⟨G, r, g1, ?_, r2, r3, ?_, d1, fun _ => d3 (Or.inl z)⟩
      · rw [q_X11_common_L14, if_neg (show ¬ (190 : Int32) < nI i by rw [ltI, nI_toInt (by omega), show (190 : Int32).toInt = 190 from rfl]; omega), isZ hQ, if_neg z, ite00, hlv, Option.bind_some]
        rw [← nI_1] at r1
        exact r1
      · rw [u3]
        exact pdv_xor d2 (pdv_mul d1 u _)
def lz (P : Nat) : Nat := if P = 0 then 0 else P.log2 + 1
theorem lz_lt (P : Nat) : P < 2 ^ lz P := by
  unfold lz
  by_cases c : P = 0
  · rw [if_pos c, c]; decide
  · rw [if_neg c]; exact (lg2 c).2
theorem lz_le {P k : Nat} (h : P < 2 ^ k) : lz P ≤ k := by
  unfold lz
  by_cases c : P = 0
  · rw [if_pos c]; omega
  · rw [if_neg c]; exact lg12 c h
theorem dg_lz {P : Nat} (hP : P < 2 ^ 96) : (dgI P).toInt = (lz P : Int) - 1 := by
  unfold lz
  rcases dg_cases hP with ⟨rfl, e⟩ | ⟨h0, h95, e, -, -⟩
  · rw [e, if_pos rfl]; rfl
  · rw [e, if_neg h0, nI_toInt (by omega)]; omega
section DIVISION
variable {S : Nat × (Nat → Int32)} {a10 a11 : Nat → Int64} {P : Nat → Nat} {x y x' y' x'' y'' : Int64}
theorem comT {s t u : Nat} (hs : s < 8) (ht : t < 8) (hu : u < 8) (h : SH a10 a11 P) :
    ∃ v c, q_X11_common (nI s) (nI t) (nI u) a10 a11 x y x' y' x'' y'' = some (.inr v, c) ∧ ∃ G, v = dgI G ∧ G < 2 ^ 96 ∧ pdv G (P t) ∧ pdv G (P u) ∧ (P t ≠ 0 ∨ P u ≠ 0 → G ≠ 0) ∧ SH c.1 c.2.1 (upN P s G) := by
  obtain ⟨h1, h2, h3⟩ := h t ht
  obtain ⟨g1, g2, g3⟩ := h u hu
  obtain ⟨G, r, k1, r1, r2, r3, d1, d2, d3⟩ := euclidC 96 (P t) (P u) 0 10000 x'' y'' g1 (by omega) (by omega) (by omega) h1
  replace r1 : q_X11_common_L14 10000 0 (pL (P t)) (pH (P t)) (pL (P u)) (pH (P u)) x'' y'' = some r := r1
  have e1 : q_X11_common (nI s) (nI t) (nI u) a10 a11 x y x' y' x'' y'' = some (.inr (dgI G), (vp_updL a10 s (pL G), vp_updL a11 s (pH G), pL G, pH G, r.2.2.2.1, r.2.2.2.2.1, r.2.2.2.2.2.1, r.2.2.2.2.2.2)) := by
    unfold q_X11_common
    rw [rsT hs, takeT ht hu, h2, h3, g2, g3]
    simp only [xbnd, r1, Option.bind_some, r2, r3, putS hs k1]
  exact ⟨_, _, e1, G, rfl, k1, d1, d2, d3, SH_put h k1⟩
theorem divD {s t u v : Nat} (hs : s < 8) (ht : t < 8) (hu : u < 8) (hv : v < 8) (hne : s ≠ t) (h : SH a10 a11 P) (h0 : P v ≠ 0) (hd : pdv (P v) (P u)) :
    Sat (q_L_divide (nI s) (nI t) (nI u) (nI v) a10 a11 x y x' y' x'' y'') fun c => c.1 = -1 ∧ ∃ T, SH c.2.2.1 c.2.2.2.1 (upN (upN P s T) t 0) := by
  obtain ⟨c, e, r1, r2⟩ := divT (x := x) (y := y) (x' := x') (y' := y') (x'' := x'') (y'' := y'') hs ht hu hv hne h h0
  obtain ⟨k1, k2⟩ := lg2 h0
  have := lg12 h0 (h v hv).1
  rw [(rest0 k1 k2 (by omega) (h u hu).1).mpr hd] at r1 r2
  exact ⟨c, e, r1, _, r2⟩
set_option maxHeartbeats 1000000 in
theorem isDivisionT (hS : S.1 ≤ 260) (hH : SH a10 a11 P) :
    Sat (q_L_isDivision S a10 a11 x y x' y' x'' y'') fun z => z.1 = 1 ∧ ∃ P', SH z.2.1 z.2.2.1 P' := by
  obtain ⟨t1, e1⟩ := cellT hS (i := 107) (by omega)
  obtain ⟨t1, ht1, rfl⟩ := nI_any t1
  obtain ⟨t2, e2⟩ := cellT hS (i := 108) (by omega)
  obtain ⟨t2, ht2, rfl⟩ := nI_any t2
  obtain ⟨t3, e3⟩ := cellT hS (i := 109) (by omega)
  obtain ⟨t3, ht3, rfl⟩ := nI_any t3
  obtain ⟨v, hv, e4⟩ := someT hS (i := 110) (n := 64) (by omega) (by omega) (by omega)
  have hq : t3 ||| 1 < 4294967296 := Nat.or_lt_two_pow (n := 32) ht3 (by decide)
  have e5 : nI t3 ||| (1 : Int32) = nI (t3 ||| 1) := by rw [k1, nI_or]
  have q0 := odd_n (odd_b t3)
  generalize t3 ||| 1 = q at hq e5 q0
  obtain ⟨A, hA⟩ : ∃ A, A = 2 ^ 32 * t2 + t1 := ⟨_, rfl⟩
  obtain ⟨B, hB⟩ : ∃ B, B = 2 ^ 32 * v + q := ⟨_, rfl⟩
  have a64 : A < 2 ^ 64 := by omega
  have a96 : A < 2 ^ 96 := by omega
  have b38 : B < 2 ^ 38 := by omega
  have b96 : B < 2 ^ 96 := by omega
  have b0 : B ≠ 0 := by omega
  have bl := lg12 b0 b38
  obtain ⟨b1, b2⟩ := lg2 b0
  have hr := dv_rest b1 b2 (96 - B.log2) A 0 (by rw [show 96 - B.log2 + B.log2 = 96 by omega]; exact a96)
  obtain ⟨u, u1, u2, u3⟩ := dv_cm (Q := B) (b := B.log2) (96 - B.log2) A 0
  rw [Nat.zero_xor] at u2
  rw [← u2] at u1 u3
  unfold q_L_isDivision
  refine se (x := nI t1) e1 ?_
  refine se (x := nI t2) e2 ?_
  refine sx (polyT (s := 0) (by omega) ht1 ht2 hH) ?_
  intro y6 H6
  refine se (x := nI t3) e3 ?_
  refine se (x := nI v) e4 ?_
  rw [e5]
  refine sx (polyT (s := 1) (by omega) hq (by omega) H6) ?_
  intro y14 H14
  rw [← hA, ← hB] at H14 ⊢
  have f0 : upN (upN P 0 A) 1 B 0 = A := by rw [upN_ne (by omega), upN_eq]
  have f1 : upN (upN P 0 A) 1 B 1 = B := upN_eq
  generalize upN (upN P 0 A) 1 B = P1 at H14 f0 f1
  have hdiv := fun x y x' y' x'' y'' => divT (s := 2) (t := 3) (u := 0) (v := 1) (x := x) (y := y) (x' := x') (y' := y') (x'' := x'') (y'' := y'') (by omega) (by omega) (by omega) (by omega) (by omega) H14 (by rw [f1]; exact b0)
  rw [f0, f1] at hdiv
  generalize (dv B B.log2 (96 - B.log2) A 0).1 = R at hr u3 hdiv
  generalize (dv B B.log2 (96 - B.log2) A 0).2 = T at u1 u3 hdiv
  refine sb (hdiv _ _ _ _ _ _) ?_
  rintro y17 ⟨r17, H17⟩
  have r96 : R < 2 ^ 96 := Nat.lt_of_lt_of_le hr (Nat.pow_le_pow_right (by decide) (by omega))
  have rz := lz_le hr
  have bz : lz B = B.log2 + 1 := if_neg b0
  refine sN (show ¬ dgI B ≤ y17.1 by rw [r17, leI, dg_lz b96, dg_lz r96, bz]; omega) ?_
  have g2 : upN (upN P1 2 T) 3 R 2 = T := by rw [upN_ne (by omega), upN_eq]
  have g1 : upN (upN P1 2 T) 3 R 1 = B := by rw [upN_ne (by omega), upN_ne (by omega), f1]
  have g3 : upN (upN P1 2 T) 3 R 3 = R := upN_eq
  have g0 : upN (upN P1 2 T) 3 R 0 = A := by rw [upN_ne (by omega), upN_ne (by omega), f0]
  generalize upN (upN P1 2 T) 3 R = P2 at H17 g2 g1 g3 g0
  have t96 : T < 2 ^ 96 := Nat.lt_of_lt_of_le u1 (Nat.pow_le_pow_right (by decide) (by omega))
  rw [← cm_ge u1 (show 96 - B.log2 ≤ 96 by omega)] at u3
  obtain ⟨C, hC⟩ : ∃ C, C = cm T B 96 := ⟨_, rfl⟩
  rw [← hC] at u3
  have c1 : C = A ^^^ R := by rw [u3, Nat.xor_comm R C, Nat.xor_assoc, Nat.xor_self, Nat.xor_zero]
  have c64 : C < 2 ^ 64 := by rw [c1]; exact Nat.xor_lt_two_pow a64 (Nat.lt_of_lt_of_le hr (Nat.pow_le_pow_right (by decide) (by omega)))
  have cz : lz C ≤ max (lz A) (lz B) := by
    apply lz_le
    rw [c1]
    exact Nat.xor_lt_two_pow (Nat.lt_of_lt_of_le (lz_lt A) (Nat.pow_le_pow_right (by decide) (Nat.le_max_left _ _))) (Nat.lt_of_lt_of_le hr (Nat.pow_le_pow_right (by decide) (by rw [bz]; omega)))
  have hfit : P2 2 = 0 ∨ P2 1 = 0 ∨ (P2 2).log2 + (P2 1).log2 ≤ 95 := by
    rw [g2, g1]
    by_cases z : T = 0
    · exact Or.inl z
    · obtain ⟨k1, k2⟩ := lg2 z
      obtain ⟨d1, -⟩ := cm_deg (K := 96) k1 k2 b1 b2 (lg12 z t96)
      rw [← hC] at d1
      have d2 : 2 ^ (T.log2 + B.log2) < 2 ^ 64 := Nat.lt_of_le_of_lt d1 c64
      have d3 := (Nat.pow_lt_pow_iff_right (by decide)).mp d2
      exact Or.inr (Or.inr (by omega))
  have hjoin := fun x y x' y' x'' y'' => joinP (s := 4) (t := 2) (u := 1) (x := x) (y := y) (x' := x') (y' := y') (x'' := x'') (y'' := y'') (by omega) (by omega) (by omega) H17 hfit
  rw [g2, g1, ← hC] at hjoin
  refine sx (hjoin _ _ _ _ _ _) ?_
  intro y23 H23
  refine sP (show dgI C ≤ (if dgI A < dgI B then dgI B else dgI A) by
    by_cases c : dgI A < dgI B
    · rw [if_pos c, leI, dg_lz (by omega), dg_lz b96]
      rw [ltI, dg_lz a96, dg_lz b96] at c
      omega
    · rw [if_neg c, leI, dg_lz (by omega), dg_lz a96]
      rw [ltI, dg_lz a96, dg_lz b96] at c
      omega) ?_
  have k4 : upN P2 4 C 4 = C := upN_eq
  have k3 : upN P2 4 C 3 = R := by rw [upN_ne (by omega), g3]
  have hsum := fun x y x' y' x'' y'' => joinS (s := 4) (t := 4) (u := 3) (x := x) (y := y) (x' := x') (y' := y') (x'' := x'') (y'' := y'') (by omega) (by omega) (by omega) H23
  rw [k4, k3, show C ^^^ R = A by rw [c1, Nat.xor_assoc, Nat.xor_self, Nat.xor_zero]] at hsum
  refine sx (hsum _ _ _ _ _ _) ?_
  intro y29 H29
  refine sP rfl ?_
  have m4 : upN (upN P2 4 C) 4 A 4 = A := upN_eq
  have m0 : upN (upN P2 4 C) 4 A 0 = A := by rw [upN_ne (by omega), upN_ne (by omega), g0]
  have m1 : upN (upN P2 4 C) 4 A 1 = B := by rw [upN_ne (by omega), upN_ne (by omega), g1]
  generalize upN (upN P2 4 C) 4 A = P3 at H29 m4 m0 m1
  refine sxe (bitsT (s := 4) (t := 0) (by omega) (by omega) H29) ?_
  refine sxe (bitsT (s := 0) (t := 0) (by omega) (by omega) H29) ?_
  refine sN (fun z => z (by rw [m4, m0])) ?_
  refine sxe (bitsT (s := 4) (t := 1) (by omega) (by omega) H29) ?_
  refine sxe (bitsT (s := 0) (t := 1) (by omega) (by omega) H29) ?_
  refine sN (fun z => z (by rw [m4, m0])) ?_
  refine sxe (bitsT (s := 4) (t := 2) (by omega) (by omega) H29) ?_
  refine sP (by rw [m4, show A / 2 ^ (32 * 2) = 0 from Nat.div_eq_of_lt a64]; rfl) ?_
  refine sxv (comT (s := 5) (t := 0) (u := 1) (by omega) (by omega) (by omega) H29) ?_
  rintro v65 y65 ⟨G, rfl, G96, d1, d2, d3, H65⟩
  rw [m0] at d1
  rw [m1] at d2
  have G0 : G ≠ 0 := d3 (Or.inr (by rw [m1]; exact b0))
  refine sN (dgM1 G0 G96) ?_
  refine sb (divD (s := 6) (t := 7) (u := 0) (v := 5) (by omega) (by omega) (by omega) (by omega) (by omega) H65 (by rw [upN_eq]; exact G0) (by rw [upN_eq, upN_ne (by omega), m0]; exact d1)) ?_
  rintro y68 ⟨r68, T', H68⟩
  refine sN (fun z => z r68) ?_
  have n5 : upN (upN (upN P3 5 G) 6 T') 7 0 5 = G := by rw [upN_ne (by omega), upN_ne (by omega), upN_eq]
  have n1 : upN (upN (upN P3 5 G) 6 T') 7 0 1 = B := by rw [upN_ne (by omega), upN_ne (by omega), upN_ne (by omega), m1]
  refine sb (divD (s := 6) (t := 7) (u := 1) (v := 5) (by omega) (by omega) (by omega) (by omega) (by omega) H68 (by rw [n5]; exact G0) (by rw [n5, n1]; exact d2)) ?_
  rintro y71 ⟨r71, T'', H71⟩
  refine sN (fun z => z r71) ?_
  exact ⟨_, rfl, rfl, _, H71⟩
end DIVISION

/-! Bursts no longer than the width are seen; products of the polynomial are not; the quotient comes back. -/
theorem low_l {t w : Nat} (ht : t < 4294967296) (h : w ≤ 32) : (nI t).toInt64 &&& (((1 : Int64) <<< ((nI w).toInt64 &&& 63)) - 1) = lN (t % 2 ^ w) := by
  rw [maskL h]
  have hm := nI_mask ht
  obtain ⟨x, hx, e⟩ := lN_any (nI t).toInt64
  rw [e] at hm ⊢
  rw [show (4294967295 : Int64) = lN (2 ^ 32 - 1) from rfl, lN_and, Nat.and_two_pow_sub_one_eq_mod] at hm
  have e2 : x % 2 ^ 32 = t := (lN_inj (by omega) (by omega)).mp hm
  rw [lN_and, Nat.and_two_pow_sub_one_eq_mod, ← e2, Nat.mod_mod_of_dvd _ (Nat.pow_dvd_pow 2 h)]
theorem odd_b (x : Nat) : (x ||| 1).testBit 0 = true := by
  rw [Nat.testBit_or]
  have : Nat.testBit 1 0 = true := by decide
  rw [this, Bool.or_true]
theorem odd_n {x : Nat} (h : x.testBit 0 = true) : x ≠ 0 := by
  rintro rfl
  rw [Nat.zero_testBit] at h
  exact absurd h (by decide)
theorem odd_p {x : Nat} (h : x % 2 = 1) : x.testBit 0 = true := by
  rw [Nat.testBit_zero, h]
  rfl
section BURST
variable {S : Nat × (Nat → Int32)} {a10 a11 : Nat → Int64} {P : Nat → Nat} {x y x' y' x'' y'' : Int64} {w p : Nat}
set_option maxHeartbeats 1000000 in
theorem areBurstsT (hS : S.1 ≤ 260) (h1 : 1 ≤ w) (h : w ≤ 32) (hp : p < 2 ^ w) (ho : p % 2 = 1) (hH : SH a10 a11 P) :
    Sat (q_L_areBursts S (nI w) a10 a11 x y x' y' x'' y'' (nI w) (nI p)) fun z => z.1 = 1 ∧ ∃ P', SH z.2.1 z.2.2.1 P' := by
  have hw := pow_le h
  have hw0 := Nat.two_pow_pos w
  obtain ⟨K, hK⟩ : ∃ K, K = 2 ^ w + p := ⟨_, rfl⟩
  have kb : 2 ^ w ≤ K ∧ K < 2 ^ (w + 1) := ⟨by omega, by rw [Nat.pow_succ]; omega⟩
  have k0 : K ≠ 0 := by omega
  have k96 : K < 2 ^ 96 := by omega
  have kl : K.log2 = w := (Nat.log2_eq_iff k0).mpr kb
  have ko : K.testBit 0 = true := by
    apply odd_p
    obtain ⟨v, rfl⟩ : ∃ v, w = v + 1 := ⟨w - 1, by omega⟩
    rw [Nat.pow_succ] at hK
    omega
  obtain ⟨t0, e1⟩ := cellT hS (i := 105) (by omega)
  obtain ⟨t, ht, rfl⟩ := nI_any t0
  obtain ⟨u, hu, e2⟩ := someT hS (i := 106) (n := 31) (by omega) (by omega) (by omega)
  obtain ⟨B, hB⟩ : ∃ B, B = t % 2 ^ w ||| 1 := ⟨_, rfl⟩
  have bo : B.testBit 0 = true := by rw [hB]; exact odd_b _
  have b0 := odd_n bo
  have bw : B < 2 ^ w := by rw [hB]; exact Nat.or_lt_two_pow (Nat.mod_lt _ hw0) (Nat.one_lt_two_pow (by omega))
  have bl := lg12 b0 bw
  obtain ⟨b1, b2⟩ := lg2 b0
  have eB : (((nI t).toInt64 &&& (((1 : Int64) <<< ((nI w).toInt64 &&& 63)) - 1)) ||| 1).toInt32 = nI B := by
    rw [low_l ht h, show lN (t % 2 ^ w) ||| 1 = lN B by rw [show (1 : Int64) = lN 1 from rfl, lN_or, hB], lN_i]
  have eu : (1 : Int32) <<< (nI u &&& 31) = nI (2 ^ u) := by rw [k1, nI_shl 1 (by omega), Nat.one_mul]
  have hu32 : 2 ^ u < 4294967296 := Nat.lt_of_lt_of_le (Nat.pow_lt_pow_right (by decide) (show u < 32 by omega)) (by decide)
  obtain ⟨X, hX⟩ : ∃ X, X = B * 2 ^ u := ⟨_, rfl⟩
  have x1 : 2 ^ (B.log2 + u) ≤ X ∧ X < 2 ^ (B.log2 + u + 1) := by
    rw [hX, show B.log2 + u + 1 = B.log2 + 1 + u by omega, Nat.pow_add, Nat.pow_add]
    exact ⟨Nat.mul_le_mul_right _ b1, Nat.mul_lt_mul_of_pos_right b2 (Nat.two_pow_pos u)⟩
  have x0 : X ≠ 0 := by have := Nat.two_pow_pos (B.log2 + u); omega
  have xl : X.log2 = B.log2 + u := (Nat.log2_eq_iff x0).mpr x1
  have x96 : X < 2 ^ 96 := Nat.lt_of_lt_of_le x1.2 (Nat.pow_le_pow_right (by decide) (by omega))
  have xd : dgI X = nI (B.log2 + u) := log_of x1.1 x1.2
  have bd : dgI B = nI B.log2 := log_of b1 b2
  have xs : ¬ pdv K X := by
    intro hd
    rw [hX] at hd
    exact b0 (pdv_small kb.1 kb.2 bw (pdv_un ko u hd))
  obtain ⟨M, hM⟩ : ∃ M, M = cm K X 96 := ⟨_, rfl⟩
  have m1 := cm_deg (K := 96) kb.1 kb.2 x1.1 x1.2 (by omega)
  rw [← hM] at m1
  have m0 : M ≠ 0 := by have := Nat.two_pow_pos (w + (B.log2 + u)); omega
  have m96 : M < 2 ^ 96 := Nat.lt_of_lt_of_le m1.2 (Nat.pow_le_pow_right (by decide) (by omega))
  have md : dgI M = nI (w + (B.log2 + u)) := log_of m1.1 m1.2
  have mc : M = cm X K 96 := by rw [hM]; exact cm_comm k96 x96
  obtain ⟨q1, q2⟩ := quot kb.1 kb.2 (show w ≤ 95 by omega) m96 x96 mc
  unfold q_L_areBursts
  refine se (x := nI t) e1 ?_
  refine se (x := nI u) e2 ?_
  rw [eB, eu]
  refine sx (polyT (s := 0) (b := 0) (by omega) (show B < 4294967296 by omega) (by omega) hH) ?_
  intro y6 H6
  refine sx (polyT (s := 1) (b := 0) (by omega) hu32 (by omega) H6) ?_
  intro y12 H12
  rw [show 2 ^ 32 * 0 + B = B by omega, show 2 ^ 32 * 0 + 2 ^ u = 2 ^ u by omega] at H12
  have eX : cm (upN (upN P 0 B) 1 (2 ^ u) 0) (upN (upN P 0 B) 1 (2 ^ u) 1) 96 = X := by
    show cm B (2 ^ u) 96 = X
    rw [hX]
    exact cm_p (Nat.lt_of_lt_of_le bw (Nat.pow_le_pow_right (by decide) (by omega)))
  refine sx (joinP (s := 2) (t := 0) (u := 1) (by omega) (by omega) (by omega) H12 (Or.inr (Or.inr (by
    show B.log2 + (2 ^ u).log2 ≤ 95
    rw [Nat.log2_two_pow]
    omega)))) ?_
  intro y18 H18
  rw [eX] at H18 ⊢
  obtain ⟨Q, hQ, H18⟩ : ∃ Q : Nat → Nat, Q 2 = X ∧ SH y18.1 y18.2.1 Q := ⟨_, upN_eq, H18⟩
  rw [show 2 ^ 32 * 0 + B = B by omega, xd, bd]
  refine sN (fun z => z (by rw [nI_add])) ?_
  refine sb (seen1 (s := 2) (by omega) h1 h hp H18 (by rw [hQ]; exact x0) (by rw [hQ, ← hK]; exact xs)) ?_
  intro y21 r21
  refine sN (fun z => z r21) ?_
  refine sx (kindT (s := 3) (by omega) h hp H18) ?_
  intro y27 H27
  refine sN (fun z => z rfl) ?_
  rw [← hK] at H27
  refine sb (seen0 (s := 3) (by omega) h1 h hp H27 (by rw [upN_eq]; exact k0) (by rw [upN_eq, ← hK]; exact pdv_self K)) ?_
  intro y30 r30
  refine sP r30 ?_
  have eM : cm (upN Q 3 K 3) (upN Q 3 K 2) 96 = M := by rw [upN_eq, upN_ne (by omega), hQ, hM]
  refine sx (joinP (s := 4) (t := 3) (u := 2) (by omega) (by omega) (by omega) H27 (Or.inr (Or.inr (by
    rw [upN_eq, upN_ne (by omega), hQ, kl, xl]
    omega)))) ?_
  intro y36 H36
  rw [eM] at H36 ⊢
  rw [md]
  refine sN (fun z => z (by rw [nI_add, nI_add, Nat.add_assoc])) ?_
  refine sb (seen0 (s := 4) (by omega) h1 h hp H36 (by rw [upN_eq]; exact m0) (by rw [upN_eq, ← hK]; exact ⟨96, X, x96, mc⟩)) ?_
  intro y39 r39
  refine sN (fun z => z r39) ?_
  have e3 : upN (upN Q 3 K) 4 M 3 = K := by rw [upN_ne (by omega), upN_eq]
  have e4 : upN (upN Q 3 K) 4 M 4 = M := upN_eq
  refine sb (divT (s := 5) (t := 6) (u := 4) (v := 3) (by omega) (by omega) (by omega) (by omega) (by omega) H36 (by rw [e3]; exact k0)) ?_
  intro y42 r42
  obtain ⟨r42, H42⟩ := r42
  rw [e3, e4, kl, q1] at r42
  rw [e3, e4, kl, q1, q2] at H42
  refine sN (fun z => z r42) ?_
  have f5 : upN (upN (upN (upN Q 3 K) 4 M) 5 X) 6 0 5 = X := by rw [upN_ne (by omega), upN_eq]
  have f2 : upN (upN (upN (upN Q 3 K) 4 M) 5 X) 6 0 2 = X := by rw [upN_ne (by omega), upN_ne (by omega), upN_ne (by omega), upN_ne (by omega), hQ]
  have f4 : upN (upN (upN (upN Q 3 K) 4 M) 5 X) 6 0 4 = M := by rw [upN_ne (by omega), upN_ne (by omega), upN_eq]
  have f3 : upN (upN (upN (upN Q 3 K) 4 M) 5 X) 6 0 3 = K := by rw [upN_ne (by omega), upN_ne (by omega), upN_ne (by omega), upN_eq]
  generalize upN (upN (upN (upN Q 3 K) 4 M) 5 X) 6 0 = R at H42 f5 f2 f4 f3
  refine sxe (bitsT (s := 5) (t := 0) (by omega) (by omega) H42) ?_
  refine sxe (bitsT (s := 2) (t := 0) (by omega) (by omega) H42) ?_
  refine sN (fun z => z (by rw [f5, f2])) ?_
  refine sxe (bitsT (s := 5) (t := 1) (by omega) (by omega) H42) ?_
  refine sxe (bitsT (s := 2) (t := 1) (by omega) (by omega) H42) ?_
  refine sN (fun z => z (by rw [f5, f2])) ?_
  refine sxe (bitsT (s := 5) (t := 2) (by omega) (by omega) H42) ?_
  refine sxe (bitsT (s := 2) (t := 2) (by omega) (by omega) H42) ?_
  refine sP (by rw [f5, f2]) ?_
  refine sx (polyT (s := 7) (a := 0) (b := 0) (by omega) (by omega) (by omega) H42) ?_
  intro y84 H84
  refine sN (fun z => z rfl) ?_
  refine sb (seenZ (s := 7) (by omega) H84 (upN_eq.trans rfl)) ?_
  intro y87 r87
  refine sN (fun z => z r87) ?_
  refine sb (divS (s := 5) (u := 4) (v := 3) (by omega) (by omega) (by omega) H84) ?_
  rintro y90 ⟨r90, g90, g90'⟩
  refine sN (fun z => z r90) ?_
  rw [← g90, ← g90'] at H84
  refine sb (div0 (s := 5) (t := 6) (u := 4) (v := 7) (by omega) (by omega) (by omega) (by omega) (by omega) H84 (upN_eq.trans rfl)) ?_
  rintro y93 ⟨r93, g93, g93'⟩
  refine sN (fun z => z r93) ?_
  refine sb (div8 (s := 5) (u := 4) (v := 7) (by omega)) ?_
  rintro y96 ⟨r96, g96, g96'⟩
  refine sN (fun z => z r96) ?_
  rw [← g93, ← g93', ← g96, ← g96'] at H84
  exact ⟨_, rfl, rfl, _, H84⟩
end BURST

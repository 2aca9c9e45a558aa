/-! The law: every run of its loop ends, with 1. -/
theorem tsw42 {y : Int32} (h0 : ¬ y = 0) (h1 : ¬ y = 1) (h2 : ¬ y = 2) (h3 : ¬ y = 3) (h4 : ¬ y = 4) (h5 : ¬ y = 5) (h6 : ¬ y = 6) (h7 : ¬ y = 7) (h8 : ¬ y = 8) (h9 : ¬ y = 9) (h10 : ¬ y = 10) (h11 : ¬ y = 11) (h12 : ¬ y = 12) (h13 : ¬ y = 13) (h14 : ¬ y = 14) (h15 : ¬ y = 15) (h16 : ¬ y = 16) (h17 : ¬ y = 17) (h18 : ¬ y = 18) (h19 : ¬ y = 19) (h20 : ¬ y = 20) (h21 : ¬ y = 21) (h22 : ¬ y = 22) (h23 : ¬ y = 23) (h24 : ¬ y = 24) (h25 : ¬ y = 25) (h26 : ¬ y = 26) (h27 : ¬ y = 27) (h28 : ¬ y = 28) (h29 : ¬ y = 29) (h30 : ¬ y = 30) (h31 : ¬ y = 31) (h32 : ¬ y = 32) (h33 : ¬ y = 33) (h34 : ¬ y = 34) (h35 : ¬ y = 35) (h36 : ¬ y = 36) (h37 : ¬ y = 37) (h38 : ¬ y = 38) (h39 : ¬ y = 39) (h40 : ¬ y = 40) (h41 : ¬ y = 41) (h42 : ¬ y = 42) : y.toInt < 0 ∨ 42 < y.toInt := by
  have k : ∀ c : Int32, ¬ y = c → y.toInt ≠ c.toInt := fun c h e => h (Int32.toInt_inj.mp e)
  have a0 : y.toInt ≠ 0 := k 0 h0
  have a1 : y.toInt ≠ 1 := k 1 h1
  have a2 : y.toInt ≠ 2 := k 2 h2
  have a3 : y.toInt ≠ 3 := k 3 h3
  have a4 : y.toInt ≠ 4 := k 4 h4
  have a5 : y.toInt ≠ 5 := k 5 h5
  have a6 : y.toInt ≠ 6 := k 6 h6
  have a7 : y.toInt ≠ 7 := k 7 h7
  have a8 : y.toInt ≠ 8 := k 8 h8
  have a9 : y.toInt ≠ 9 := k 9 h9
  have a10 : y.toInt ≠ 10 := k 10 h10
  have a11 : y.toInt ≠ 11 := k 11 h11
  have a12 : y.toInt ≠ 12 := k 12 h12
  have a13 : y.toInt ≠ 13 := k 13 h13
  have a14 : y.toInt ≠ 14 := k 14 h14
  have a15 : y.toInt ≠ 15 := k 15 h15
  have a16 : y.toInt ≠ 16 := k 16 h16
  have a17 : y.toInt ≠ 17 := k 17 h17
  have a18 : y.toInt ≠ 18 := k 18 h18
  have a19 : y.toInt ≠ 19 := k 19 h19
  have a20 : y.toInt ≠ 20 := k 20 h20
  have a21 : y.toInt ≠ 21 := k 21 h21
  have a22 : y.toInt ≠ 22 := k 22 h22
  have a23 : y.toInt ≠ 23 := k 23 h23
  have a24 : y.toInt ≠ 24 := k 24 h24
  have a25 : y.toInt ≠ 25 := k 25 h25
  have a26 : y.toInt ≠ 26 := k 26 h26
  have a27 : y.toInt ≠ 27 := k 27 h27
  have a28 : y.toInt ≠ 28 := k 28 h28
  have a29 : y.toInt ≠ 29 := k 29 h29
  have a30 : y.toInt ≠ 30 := k 30 h30
  have a31 : y.toInt ≠ 31 := k 31 h31
  have a32 : y.toInt ≠ 32 := k 32 h32
  have a33 : y.toInt ≠ 33 := k 33 h33
  have a34 : y.toInt ≠ 34 := k 34 h34
  have a35 : y.toInt ≠ 35 := k 35 h35
  have a36 : y.toInt ≠ 36 := k 36 h36
  have a37 : y.toInt ≠ 37 := k 37 h37
  have a38 : y.toInt ≠ 38 := k 38 h38
  have a39 : y.toInt ≠ 39 := k 39 h39
  have a40 : y.toInt ≠ 40 := k 40 h40
  have a41 : y.toInt ≠ 41 := k 41 h41
  have a42 : y.toInt ≠ 42 := k 42 h42
  omega
theorem head_T {i n : Nat} (h : n < i + 6) (hi : i ≤ 3078) (hn : n ≤ 3072) : nI n - 6 < nI i := by
  rw [Int32.lt_iff_toInt_lt, Int32.toInt_sub, nI_toInt (by omega), nI_toInt (by omega), show (6 : Int32).toInt = 6 from rfl]
  rw [Int.bmod_eq_of_le (by omega) (by omega)]
  omega
theorem head_F {i n : Nat} (h : i + 6 ≤ n) (hn : n ≤ 3072) : ¬ nI n - 6 < nI i := by
  rw [Int32.lt_iff_toInt_lt, Int32.toInt_sub, nI_toInt (by omega), nI_toInt (by omega), show (6 : Int32).toInt = 6 from rfl]
  rw [Int.bmod_eq_of_le (by omega) (by omega)]
  omega
theorem zX_le (b : Bool) (z : Bool × Nat × Nat) : (zX b z).2.1 ≤ z.2.1 + 1 ∧ (zX b z).2.2 ≤ z.2.2 + 6 := by
  cases b
  · exact ⟨Nat.le_succ _, Nat.le_add_right _ _⟩
  · exact ⟨Nat.le_refl _, Nat.le_refl _⟩
def MSall : Prop := MS_0 ∧ MS_1 ∧ MS_2 ∧ MS_3 ∧ MS_4 ∧ MS_5 ∧ MS_6 ∧ MS_7 ∧ MS_8 ∧ MS_9 ∧ MS_10 ∧ MS_11 ∧ MS_12 ∧ MS_13 ∧ MS_14 ∧ MS_15 ∧ MS_16 ∧ MS_17 ∧ MS_18 ∧ MS_19 ∧ MS_20 ∧ MS_21 ∧ MS_22 ∧ MS_23 ∧ MS_24 ∧ MS_25 ∧ MS_26 ∧ MS_27 ∧ MS_28 ∧ MS_29 ∧ MS_30 ∧ MS_31 ∧ MS_32 ∧ MS_33 ∧ MS_34 ∧ MS_35 ∧ MS_36 ∧ MS_37 ∧ MS_38 ∧ MS_39 ∧ MS_40 ∧ MS_41 ∧ MS_42
set_option maxHeartbeats 4000000 in
theorem law_step (hM : MSall) {S : Nat × (Nat → Int32)} {d i : Nat} {H : List xE} {z : Bool × Nat × Nat} (sh : Shp H) (iv : Inv H) (hi : i + 6 ≤ S.1) (hS : S.1 ≤ 3072) : ∃ (H' : List xE) (b : Bool), (∀ r, Ev S (d + 7) 304 (23, [some (.ref 1000002), some (.ref 0), some (.ref 48), some (.ref 66), some (.int (nI (i + 6))), none, none, none], []) (H', zX b z) r → Ev S (d + 7) 304 (23, [some (.ref 1000002), some (.ref 0), some (.ref 48), some (.ref 66), some (.int (nI i)), none, none, none], []) (H, z) r) ∧ Shp H' ∧ Inv H' := by
  obtain ⟨m0, m1, m2, m3, m4, m5, m6, m7, m8, m9, m10, m11, m12, m13, m14, m15, m16, m17, m18, m19, m20, m21, m22, m23, m24, m25, m26, m27, m28, m29, m30, m31, m32, m33, m34, m35, m36, m37, m38, m39, m40, m41, m42⟩ := hM
  have hx : xin (nI i) S.1 = true := (xin_nI' (by omega) (by omega)).1
  have G : ∀ t, (∀ r, Ev S (d + 7) 304 (t, [some (.ref 1000002), some (.ref 0), some (.ref 48), some (.ref 66), some (.int (nI i)), none, none, none], []) (H, z) r → Ev S (d + 7) 304 (40, [some (.ref 1000002), some (.ref 0), some (.ref 48), some (.ref 66), some (.int (nI i)), none, none, none], [.int (S.2 (nI i).toNatClampNeg &&& 63)]) (H, z) r) → (∃ (H' : List xE) (b : Bool), (∀ r, Ev S (d + 7) 304 (2834, [some (.ref 1000002), some (.ref 0), some (.ref 48), some (.ref 66), some (.int (nI i)), none, none, none], []) (H', zX b z) r → Ev S (d + 7) 304 (t, [some (.ref 1000002), some (.ref 0), some (.ref 48), some (.ref 66), some (.int (nI i)), none, none, none], []) (H, z) r) ∧ Shp H' ∧ Inv H') → ∃ (H' : List xE) (b : Bool), (∀ r, Ev S (d + 7) 304 (23, [some (.ref 1000002), some (.ref 0), some (.ref 48), some (.ref 66), some (.int (nI (i + 6))), none, none, none], []) (H', zX b z) r → Ev S (d + 7) 304 (23, [some (.ref 1000002), some (.ref 0), some (.ref 48), some (.ref 66), some (.int (nI i)), none, none, none], []) (H, z) r) ∧ Shp H' ∧ Inv H' := by
    intro t ht ⟨H', b, hr, a1, a2⟩
    refine ⟨H', b, fun r hE => ?_, a1, a2⟩
    refine ev_run 2 (F' := (26, [some (.ref 1000002), some (.ref 0), some (.ref 48), some (.ref 66), some (.int (nI i)), none, none, none], [.ref 1000002, .int (nI i)])) rfl ?_
    refine ev_rlen (t := 0) (m := S.1) (f := S.2) rfl (sh_1000002 sh) rfl ?_
    refine ev_run 2 (F' := (30, [some (.ref 1000002), some (.ref 0), some (.ref 48), some (.ref 66), some (.int (nI i)), none, none, none], [.int (nI S.1 - 6), .int (nI i)])) rfl ?_
    refine ev_icmp_F rfl (show ¬ (nI S.1 - 6 < nI i) from head_F hi hS) ?_
    refine ev_run 2 (F' := (36, [some (.ref 1000002), some (.ref 0), some (.ref 48), some (.ref 66), some (.int (nI i)), none, none, none], [.int (nI i), .ref 1000002])) rfl ?_
    refine ev_riald (t := 0) (f := S.2) rfl (sh_1000002 sh) rfl hx ?_
    refine ev_run 2 (F' := (40, [some (.ref 1000002), some (.ref 0), some (.ref 48), some (.ref 66), some (.int (nI i)), none, none, none], [.int (S.2 (nI i).toNatClampNeg &&& 63)])) rfl ?_
    refine ht r (hr r ?_)
    refine ev_run 2 (F' := (23, [some (.ref 1000002), some (.ref 0), some (.ref 48), some (.ref 66), some (.int (nI i + 6)), none, none, none], [])) rfl ?_
    refine ev_cast (F1 := (23, [some (.ref 1000002), some (.ref 0), some (.ref 48), some (.ref 66), some (.int (nI (i + 6))), none, none, none], [])) (M1 := (H', zX b z)) (by rw [show nI i + 6 = nI (i + 6) from nI_add i 6]) rfl hE
  generalize S.2 (nI i).toNatClampNeg &&& 63 = y at G
  by_cases s0 : y = (0 : Int32)
  · exact G 228 (fun r hE => ev_tsw (t := 228) rfl (by rw [s0]; rfl) hE) (T_0 m0 sh iv hi hS)
  by_cases s1 : y = (1 : Int32)
  · exact G 296 (fun r hE => ev_tsw (t := 296) rfl (by rw [s1]; rfl) hE) (T_1 m1 sh iv hi hS)
  by_cases s2 : y = (2 : Int32)
  · exact G 352 (fun r hE => ev_tsw (t := 352) rfl (by rw [s2]; rfl) hE) (T_2 m2 sh iv hi hS)
  by_cases s3 : y = (3 : Int32)
  · exact G 420 (fun r hE => ev_tsw (t := 420) rfl (by rw [s3]; rfl) hE) (T_3 m3 sh iv hi hS)
  by_cases s4 : y = (4 : Int32)
  · exact G 488 (fun r hE => ev_tsw (t := 488) rfl (by rw [s4]; rfl) hE) (T_4 m4 sh iv hi hS)
  by_cases s5 : y = (5 : Int32)
  · exact G 544 (fun r hE => ev_tsw (t := 544) rfl (by rw [s5]; rfl) hE) (T_5 m5 sh iv hi hS)
  by_cases s6 : y = (6 : Int32)
  · exact G 557 (fun r hE => ev_tsw (t := 557) rfl (by rw [s6]; rfl) hE) (T_6 m6 sh iv hi hS)
  by_cases s7 : y = (7 : Int32)
  · exact G 601 (fun r hE => ev_tsw (t := 601) rfl (by rw [s7]; rfl) hE) (T_7 m7 sh iv hi hS)
  by_cases s8 : y = (8 : Int32)
  · exact G 668 (fun r hE => ev_tsw (t := 668) rfl (by rw [s8]; rfl) hE) (T_8 m8 sh iv hi hS)
  by_cases s9 : y = (9 : Int32)
  · exact G 772 (fun r hE => ev_tsw (t := 772) rfl (by rw [s9]; rfl) hE) (T_9 m9 sh iv hi hS)
  by_cases s10 : y = (10 : Int32)
  · exact G 839 (fun r hE => ev_tsw (t := 839) rfl (by rw [s10]; rfl) hE) (T_10 m10 sh iv hi hS)
  by_cases s11 : y = (11 : Int32)
  · exact G 894 (fun r hE => ev_tsw (t := 894) rfl (by rw [s11]; rfl) hE) (T_11 m11 sh iv hi hS)
  by_cases s12 : y = (12 : Int32)
  · exact G 961 (fun r hE => ev_tsw (t := 961) rfl (by rw [s12]; rfl) hE) (T_12 m12 sh iv hi hS)
  by_cases s13 : y = (13 : Int32)
  · exact G 1016 (fun r hE => ev_tsw (t := 1016) rfl (by rw [s13]; rfl) hE) (T_13 m13 sh iv hi hS)
  by_cases s14 : y = (14 : Int32)
  · exact G 1116 (fun r hE => ev_tsw (t := 1116) rfl (by rw [s14]; rfl) hE) (T_14 m14 sh iv hi hS)
  by_cases s15 : y = (15 : Int32)
  · exact G 1196 (fun r hE => ev_tsw (t := 1196) rfl (by rw [s15]; rfl) hE) (T_15 m15 sh iv hi hS)
  by_cases s16 : y = (16 : Int32)
  · exact G 1252 (fun r hE => ev_tsw (t := 1252) rfl (by rw [s16]; rfl) hE) (T_16 m16 sh iv hi hS)
  by_cases s17 : y = (17 : Int32)
  · exact G 1320 (fun r hE => ev_tsw (t := 1320) rfl (by rw [s17]; rfl) hE) (T_17 m17 sh iv hi hS)
  by_cases s18 : y = (18 : Int32)
  · exact G 1428 (fun r hE => ev_tsw (t := 1428) rfl (by rw [s18]; rfl) hE) (T_18 m18 sh iv hi hS)
  by_cases s19 : y = (19 : Int32)
  · exact G 1520 (fun r hE => ev_tsw (t := 1520) rfl (by rw [s19]; rfl) hE) (T_19 m19 sh iv hi hS)
  by_cases s20 : y = (20 : Int32)
  · exact G 1600 (fun r hE => ev_tsw (t := 1600) rfl (by rw [s20]; rfl) hE) (T_20 m20 sh iv hi hS)
  by_cases s21 : y = (21 : Int32)
  · exact G 1668 (fun r hE => ev_tsw (t := 1668) rfl (by rw [s21]; rfl) hE) (T_21 m21 sh iv hi hS)
  by_cases s22 : y = (22 : Int32)
  · exact G 1724 (fun r hE => ev_tsw (t := 1724) rfl (by rw [s22]; rfl) hE) (T_22 m22 sh iv hi hS)
  by_cases s23 : y = (23 : Int32)
  · exact G 1787 (fun r hE => ev_tsw (t := 1787) rfl (by rw [s23]; rfl) hE) (T_23 m23 sh iv hi hS)
  by_cases s24 : y = (24 : Int32)
  · exact G 1843 (fun r hE => ev_tsw (t := 1843) rfl (by rw [s24]; rfl) hE) (T_24 m24 sh iv hi hS)
  by_cases s25 : y = (25 : Int32)
  · exact G 1898 (fun r hE => ev_tsw (t := 1898) rfl (by rw [s25]; rfl) hE) (T_25 m25 sh iv hi hS)
  by_cases s26 : y = (26 : Int32)
  · exact G 1966 (fun r hE => ev_tsw (t := 1966) rfl (by rw [s26]; rfl) hE) (T_26 m26 sh iv hi hS)
  by_cases s27 : y = (27 : Int32)
  · exact G 2022 (fun r hE => ev_tsw (t := 2022) rfl (by rw [s27]; rfl) hE) (T_27 m27 sh iv hi hS)
  by_cases s28 : y = (28 : Int32)
  · exact G 2035 (fun r hE => ev_tsw (t := 2035) rfl (by rw [s28]; rfl) hE) (T_28 m28 sh iv hi hS)
  by_cases s29 : y = (29 : Int32)
  · exact G 2093 (fun r hE => ev_tsw (t := 2093) rfl (by rw [s29]; rfl) hE) (T_29 m29 sh iv hi hS)
  by_cases s30 : y = (30 : Int32)
  · exact G 2165 (fun r hE => ev_tsw (t := 2165) rfl (by rw [s30]; rfl) hE) (T_30 m30 sh iv hi hS)
  by_cases s31 : y = (31 : Int32)
  · exact G 2209 (fun r hE => ev_tsw (t := 2209) rfl (by rw [s31]; rfl) hE) (T_31 m31 sh iv hi hS)
  by_cases s32 : y = (32 : Int32)
  · exact G 2253 (fun r hE => ev_tsw (t := 2253) rfl (by rw [s32]; rfl) hE) (T_32 m32 sh iv hi hS)
  by_cases s33 : y = (33 : Int32)
  · exact G 2309 (fun r hE => ev_tsw (t := 2309) rfl (by rw [s33]; rfl) hE) (T_33 m33 sh iv hi hS)
  by_cases s34 : y = (34 : Int32)
  · exact G 2322 (fun r hE => ev_tsw (t := 2322) rfl (by rw [s34]; rfl) hE) (T_34 m34 sh iv hi hS)
  by_cases s35 : y = (35 : Int32)
  · exact G 2336 (fun r hE => ev_tsw (t := 2336) rfl (by rw [s35]; rfl) hE) (T_35 m35 sh iv hi hS)
  by_cases s36 : y = (36 : Int32)
  · exact G 2404 (fun r hE => ev_tsw (t := 2404) rfl (by rw [s36]; rfl) hE) (T_36 m36 sh iv hi hS)
  by_cases s37 : y = (37 : Int32)
  · exact G 2472 (fun r hE => ev_tsw (t := 2472) rfl (by rw [s37]; rfl) hE) (T_37 m37 sh iv hi hS)
  by_cases s38 : y = (38 : Int32)
  · exact G 2552 (fun r hE => ev_tsw (t := 2552) rfl (by rw [s38]; rfl) hE) (T_38 m38 sh iv hi hS)
  by_cases s39 : y = (39 : Int32)
  · exact G 2644 (fun r hE => ev_tsw (t := 2644) rfl (by rw [s39]; rfl) hE) (T_39 m39 sh iv hi hS)
  by_cases s40 : y = (40 : Int32)
  · exact G 2687 (fun r hE => ev_tsw (t := 2687) rfl (by rw [s40]; rfl) hE) (T_40 m40 sh iv hi hS)
  by_cases s41 : y = (41 : Int32)
  · exact G 2754 (fun r hE => ev_tsw (t := 2754) rfl (by rw [s41]; rfl) hE) (T_41 m41 sh iv hi hS)
  by_cases s42 : y = (42 : Int32)
  · exact G 2821 (fun r hE => ev_tsw (t := 2821) rfl (by rw [s42]; rfl) hE) (T_42 m42 sh iv hi hS)
  exact G 2834 (fun r hE => ev_tsw (t := 2834) rfl (by rw [if_pos (tsw42 s0 s1 s2 s3 s4 s5 s6 s7 s8 s9 s10 s11 s12 s13 s14 s15 s16 s17 s18 s19 s20 s21 s22 s23 s24 s25 s26 s27 s28 s29 s30 s31 s32 s33 s34 s35 s36 s37 s38 s39 s40 s41 s42)]; rfl) hE) ⟨H, false, fun r hE => hE, sh, iv⟩
theorem law_loop (hM : MSall) {S : Nat × (Nat → Int32)} {d : Nat} (hS : S.1 ≤ 3072) : ∀ (k i : Nat) (H : List xE) (z : Bool × Nat × Nat), Shp H → Inv H → S.1 < i + 6 * (k + 1) → i ≤ 3078 → ∃ (H' : List xE) (z' : Bool × Nat × Nat), z'.2.1 ≤ z.2.1 + k ∧ z'.2.2 ≤ z.2.2 + 6 * k ∧ Ev S (d + 7) 304 (23, [some (.ref 1000002), some (.ref 0), some (.ref 48), some (.ref 66), some (.int (nI i)), none, none, none], []) (H, z) (.inr (some (.int 1)), (H', z')) := by
  have out : ∀ (i : Nat) (H : List xE) (z : Bool × Nat × Nat), Shp H → S.1 < i + 6 → i ≤ 3078 → Ev S (d + 7) 304 (23, [some (.ref 1000002), some (.ref 0), some (.ref 48), some (.ref 66), some (.int (nI i)), none, none, none], []) (H, z) (.inr (some (.int 1)), (H, z)) := by
    intro i H z sh h1 h2
    refine ev_run 2 (F' := (26, [some (.ref 1000002), some (.ref 0), some (.ref 48), some (.ref 66), some (.int (nI i)), none, none, none], [.ref 1000002, .int (nI i)])) rfl ?_
    refine ev_rlen (t := 0) (m := S.1) (f := S.2) rfl (sh_1000002 sh) rfl ?_
    refine ev_run 2 (F' := (30, [some (.ref 1000002), some (.ref 0), some (.ref 48), some (.ref 66), some (.int (nI i)), none, none, none], [.int (nI S.1 - 6), .int (nI i)])) rfl ?_
    refine ev_icmp_T rfl (show (nI S.1 - 6 < nI i) from head_T h1 h2 hS) ?_
    refine ev_run 1 (F' := (2841, [some (.ref 1000002), some (.ref 0), some (.ref 48), some (.ref 66), some (.int (nI i)), none, none, none], [.int 1])) rfl ?_
    exact ev_ret rfl rfl rfl rfl
  intro k
  induction k with
  | zero => intro i H z sh iv h1 h2; exact ⟨H, z, Nat.le_refl _, Nat.le_refl _, out i H z sh (by omega) h2⟩
  | succ k ih =>
    intro i H z sh iv h1 h2
    by_cases hi : i + 6 ≤ S.1
    · obtain ⟨H1, b, hr, a1, a2⟩ := law_step (d := d) (z := z) hM sh iv hi hS
      obtain ⟨H2, z2, b1, b2, hE⟩ := ih (i + 6) H1 (zX b z) a1 a2 (by omega) (by omega)
      have := zX_le b z
      exact ⟨H2, z2, by omega, by omega, hr _ hE⟩
    · exact ⟨H, z, Nat.le_add_right _ _, Nat.le_add_right _ _, out i H z sh (by omega) h2⟩
theorem nI_ev (k : Nat) : (OfNat.ofNat k : Int32) = nI k := rfl
set_option maxRecDepth 100000 in
set_option maxHeartbeats 4000000 in
theorem law_run (hM : MSall) {S : Nat × (Nat → Int32)} (hS : S.1 ≤ 3072) : ∃ (H' : List xE) (z' : Bool × Nat × Nat), z'.2.1 ≤ 67 + 512 ∧ z'.2.2 ≤ 4709 + 3072 ∧ Ev S 12 304 (0, [some (.ref 1000002), none, none, none, none, none, none, none], []) ([], true, 0, 0) (.inr (some (.int 1)), (H', z')) := by
  obtain ⟨f22, hf, hc⟩ := cO_ex
  have sh : Shp [.inr (10, [.ref 1, .ref 3, .ref 7, .ref 8, .ref 9, .ref 10, .ref 11, .ref 12, .ref 13, .ref 14, .ref 15, .ref 17, .ref 19, .ref 23, .ref 33, .ref 35, .ref 40, .ref 45]), .inr (4, [.ref 2, .int 0]), .inl (0, 64, .inl (fun _ => 0)), .inr (2, [.ref 4, .int 0, .int 0]), .inr (7, [.int 64, .ref 5, .ref 6]), .inl (0, 640, .inl (fun _ => 0)), .inl (0, 10, .inl (fun _ => 0)), .inr (1, [.int 32, .int 517762881, .int (-1), .int (-1), .int 1, .int 1]), .inr (1, [.int 32, .int 517762881, .int (-1), .int (-1), .int 1, .int 1]), .inr (1, [.int 32, .int 517762881, .int (-1), .int (-1), .int 1, .int 1]), .inl (1, 8, .inr (.inl (fun _ => 0))), .inl (1, 8, .inr (.inl (fun _ => 0))), .inr (3, [.long 0, .long 0]), .inr (3, [.long 0, .long 0]), .inr (3, [.long 0, .long 0]), .inr (6, [.ref 16]), .inl (0, 48, .inl (fun _ => 0)), .inr (4, [.ref 18, .int 0]), .inl (0, 18, .inl (fun _ => 0)), .inr (5, [.ref 20, .ref 22]), .inr (4, [.ref 21, .int 0]), .inl (0, 18, .inl (fun _ => 0)), .inl (0, 190, .inl f22), .inr (9, [.ref 24, .ref 27, .ref 29, .ref 31, .int 0]), .inr (7, [.int 9, .ref 25, .ref 26]), .inl (0, 180, .inl (fun _ => 0)), .inl (0, 20, .inl (fun _ => 0)), .inr (4, [.ref 28, .int 0]), .inl (0, 9, .inl (fun _ => 0)), .inr (4, [.ref 30, .int 0]), .inl (0, 9, .inl (fun _ => 0)), .inr (4, [.ref 32, .int 0]), .inl (0, 9, .inl (fun _ => 0)), .inr (4, [.ref 34, .int 0]), .inl (0, 65, .inl (fun _ => 0)), .inr (0, [.ref 36, .ref 38, .ref 39, .int 0]), .inr (4, [.ref 37, .int 0]), .inl (0, 65, .inl (fun _ => 0)), .inl (0, 65, .inl (fun _ => 0)), .inl (2, 65, .inl (fun _ => 0)), .inr (0, [.ref 41, .ref 43, .ref 44, .int 0]), .inr (4, [.ref 42, .int 0]), .inl (0, 65, .inl (fun _ => 0)), .inl (0, 65, .inl (fun _ => 0)), .inl (2, 65, .inl (fun _ => 0)), .inr (8, [.ref 46, .ref 47, .int 0]), .inl (1, 80, .inr (.inl (fun _ => 0))), .inl (0, 5, .inl (fun _ => 0)), .inr (11, [.ref 49, .ref 50, .ref 51, .ref 52, .ref 53, .ref 54, .ref 55, .ref 56, .ref 57, .ref 58, .ref 59, .ref 60, .ref 61, .ref 62, .ref 63, .ref 64, .ref 65, .int 0, .int 0, .int 0, .int 0, .int 0, .int 0, .int 0, .int 32, .int 3, .long 517762881, .long 4294967295, .long 4294967295]), .inl (0, 64, .inl (fun _ => 0)), .inl (0, 80, .inl (fun _ => 0)), .inl (0, 80, .inl (fun _ => 0)), .inl (0, 650, .inl (fun _ => 0)), .inl (0, 768, .inl (fun _ => 0)), .inl (0, 192, .inl (fun _ => 0)), .inl (0, 192, .inl (fun _ => 0)), .inl (0, 192, .inl (fun _ => 0)), .inl (0, 18, .inl (fun _ => 0)), .inl (0, 200, .inl (fun _ => 0)), .inl (0, 80, .inl (fun _ => 0)), .inl (0, 80, .inl (fun _ => 0)), .inl (0, 80, .inl (fun _ => 0)), .inl (1, 48, .inr (.inl (fun _ => 0))), .inl (1, 32, .inr (.inl (fun _ => 0))), .inl (1, 32, .inr (.inl (fun _ => 0))), .inl (1, 32, .inr (.inl (fun _ => 0))), .inl (1, 1, .inr (.inl (fun _ => 0)))] := ⟨rfl, rfl, rfl, rfl, rfl, rfl, rfl, rfl, rfl, rfl, rfl, rfl, rfl, rfl, rfl, rfl, rfl, rfl, rfl, rfl, rfl, rfl, rfl, rfl, rfl, rfl, rfl, rfl, rfl, rfl, rfl, rfl, rfl, rfl, rfl, rfl, rfl, rfl, rfl, rfl, rfl, rfl, rfl, rfl, rfl, rfl, rfl, rfl, rfl, rfl, rfl, rfl, rfl, rfl, rfl, rfl, rfl, rfl, rfl, rfl, rfl, rfl, rfl, rfl, rfl, rfl, rfl, rfl, rfl⟩
  have iv : Inv [.inr (10, [.ref 1, .ref 3, .ref 7, .ref 8, .ref 9, .ref 10, .ref 11, .ref 12, .ref 13, .ref 14, .ref 15, .ref 17, .ref 19, .ref 23, .ref 33, .ref 35, .ref 40, .ref 45]), .inr (4, [.ref 2, .int 0]), .inl (0, 64, .inl (fun _ => 0)), .inr (2, [.ref 4, .int 0, .int 0]), .inr (7, [.int 64, .ref 5, .ref 6]), .inl (0, 640, .inl (fun _ => 0)), .inl (0, 10, .inl (fun _ => 0)), .inr (1, [.int 32, .int 517762881, .int (-1), .int (-1), .int 1, .int 1]), .inr (1, [.int 32, .int 517762881, .int (-1), .int (-1), .int 1, .int 1]), .inr (1, [.int 32, .int 517762881, .int (-1), .int (-1), .int 1, .int 1]), .inl (1, 8, .inr (.inl (fun _ => 0))), .inl (1, 8, .inr (.inl (fun _ => 0))), .inr (3, [.long 0, .long 0]), .inr (3, [.long 0, .long 0]), .inr (3, [.long 0, .long 0]), .inr (6, [.ref 16]), .inl (0, 48, .inl (fun _ => 0)), .inr (4, [.ref 18, .int 0]), .inl (0, 18, .inl (fun _ => 0)), .inr (5, [.ref 20, .ref 22]), .inr (4, [.ref 21, .int 0]), .inl (0, 18, .inl (fun _ => 0)), .inl (0, 190, .inl f22), .inr (9, [.ref 24, .ref 27, .ref 29, .ref 31, .int 0]), .inr (7, [.int 9, .ref 25, .ref 26]), .inl (0, 180, .inl (fun _ => 0)), .inl (0, 20, .inl (fun _ => 0)), .inr (4, [.ref 28, .int 0]), .inl (0, 9, .inl (fun _ => 0)), .inr (4, [.ref 30, .int 0]), .inl (0, 9, .inl (fun _ => 0)), .inr (4, [.ref 32, .int 0]), .inl (0, 9, .inl (fun _ => 0)), .inr (4, [.ref 34, .int 0]), .inl (0, 65, .inl (fun _ => 0)), .inr (0, [.ref 36, .ref 38, .ref 39, .int 0]), .inr (4, [.ref 37, .int 0]), .inl (0, 65, .inl (fun _ => 0)), .inl (0, 65, .inl (fun _ => 0)), .inl (2, 65, .inl (fun _ => 0)), .inr (0, [.ref 41, .ref 43, .ref 44, .int 0]), .inr (4, [.ref 42, .int 0]), .inl (0, 65, .inl (fun _ => 0)), .inl (0, 65, .inl (fun _ => 0)), .inl (2, 65, .inl (fun _ => 0)), .inr (8, [.ref 46, .ref 47, .int 0]), .inl (1, 80, .inr (.inl (fun _ => 0))), .inl (0, 5, .inl (fun _ => 0)), .inr (11, [.ref 49, .ref 50, .ref 51, .ref 52, .ref 53, .ref 54, .ref 55, .ref 56, .ref 57, .ref 58, .ref 59, .ref 60, .ref 61, .ref 62, .ref 63, .ref 64, .ref 65, .int 0, .int 0, .int 0, .int 0, .int 0, .int 0, .int 0, .int 32, .int 3, .long 517762881, .long 4294967295, .long 4294967295]), .inl (0, 64, .inl (fun _ => 0)), .inl (0, 80, .inl (fun _ => 0)), .inl (0, 80, .inl (fun _ => 0)), .inl (0, 650, .inl (fun _ => 0)), .inl (0, 768, .inl (fun _ => 0)), .inl (0, 192, .inl (fun _ => 0)), .inl (0, 192, .inl (fun _ => 0)), .inl (0, 192, .inl (fun _ => 0)), .inl (0, 18, .inl (fun _ => 0)), .inl (0, 200, .inl (fun _ => 0)), .inl (0, 80, .inl (fun _ => 0)), .inl (0, 80, .inl (fun _ => 0)), .inl (0, 80, .inl (fun _ => 0)), .inl (1, 48, .inr (.inl (fun _ => 0))), .inl (1, 32, .inr (.inl (fun _ => 0))), .inl (1, 32, .inr (.inl (fun _ => 0))), .inl (1, 32, .inr (.inl (fun _ => 0))), .inl (1, 1, .inr (.inl (fun _ => 0)))] := by
    refine ⟨⟨0, fun _ => 0, by omega, rfl, rfl, fun k h => absurd h (Nat.not_lt_zero k)⟩, ⟨0, 0, by omega, by omega, rfl, rfl, rfl, rfl, fun k h => absurd h (Nat.not_lt_zero k)⟩, ⟨32, 517762881, 4294967295, 4294967295, 3, by omega, by omega, by decide, by decide, by decide, by decide, by decide, rfl, rfl, (show (-1 : Int32) = nI 4294967295 from by decide), (show (-1 : Int32) = nI 4294967295 from by decide), rfl, rfl, rfl, rfl, rfl, rfl, rfl⟩, ⟨rfl, rfl, rfl, rfl, rfl, rfl⟩, fun s _ => ⟨0, by decide, rfl, rfl, fun k _ => by rw [Nat.zero_div]; rfl⟩, ⟨0, fun _ => 0, by omega, rfl, rfl, fun k h => absurd h (Nat.not_lt_zero k)⟩, ⟨0, by omega, rfl, rfl, rfl, fun k h => absurd h (Nat.not_lt_zero k)⟩, hc⟩
  obtain ⟨H', z', b1, b2, hE⟩ := law_loop (d := 5) hM hS 512 0 _ (true, 67, 4709) sh iv (by omega) (by omega)
  exact ⟨H', z', b1, b2, init_run (d := 0) hf hE⟩

/-! The law: isDivision. Written by a program (wip/p46/dec). -/
def q_L_isDivision (S : Nat × (Nat → Int32)) (a10 : Nat → Int64) (a11 : Nat → Int64) (c14_0 : Int64) (c14_1 : Int64) (c12_0 : Int64) (c12_1 : Int64) (c13_0 : Int64) (c13_1 : Int64) : Option (Int32 × (Nat → Int64) × (Nat → Int64) × Int64 × Int64 × Int64 × Int64 × Int64 × Int64) := ((q_L_cell S (107 : Int32)).bind (fun y1 => ((q_L_cell S (108 : Int32)).bind (fun y2 => (xbnd (q_X11_polynomial (0 : Int32) y1 y2 a10 a11 c14_0 c14_1) (fun e4 y3 => none) (fun v5 y6 => ((q_L_cell S (109 : Int32)).bind (fun y9 => ((q_L_some S (110 : Int32) (64 : Int32)).bind (fun y10 => (xbnd (q_X11_polynomial (1 : Int32) (y9 ||| (1 : Int32)) y10 y6.1 y6.2.1 y6.2.2.1 y6.2.2.2) (fun e12 y11 => none) (fun v13 y14 => ((q_L_divide (2 : Int32) (3 : Int32) (0 : Int32) (1 : Int32) y14.1 y14.2.1 c12_0 c12_1 c13_0 c13_1 y14.2.2.1 y14.2.2.2).bind (fun y17 => (if v13 ≤ y17.1 then none else (xbnd (q_X11_join (4 : Int32) (2 : Int32) (1 : Int32) (1 : Int32) y17.2.2.1 y17.2.2.2.1 y17.2.2.2.2.1 y17.2.2.2.2.2.1 y17.2.2.2.2.2.2.1 y17.2.2.2.2.2.2.2.1 y17.2.2.2.2.2.2.2.2.1 y17.2.2.2.2.2.2.2.2.2) (fun e21 y20 => none) (fun v22 y23 => (if v22 ≤ (if v5 < v13 then v13 else v5) then (xbnd (q_X11_join (4 : Int32) (4 : Int32) (3 : Int32) (0 : Int32) y23.1 y23.2.1 y23.2.2.1 y23.2.2.2.1 y23.2.2.2.2.1 y23.2.2.2.2.2.1 y23.2.2.2.2.2.2.1 y23.2.2.2.2.2.2.2) (fun e27 y26 => none) (fun v28 y29 => (if v28 = v5 then (xbnd (q_X11_bits (4 : Int32) (0 : Int32) y29.1 y29.2.1 y29.2.2.1 y29.2.2.2.1) (fun e33 y32 => none) (fun v34 y35 => (xbnd (q_X11_bits (0 : Int32) (0 : Int32) y29.1 y29.2.1 y35.1 y35.2) (fun e39 y38 => none) (fun v40 y41 => (if ¬ v34 = v40 then none else (xbnd (q_X11_bits (4 : Int32) (1 : Int32) y29.1 y29.2.1 y41.1 y41.2) (fun e45 y44 => none) (fun v46 y47 => (xbnd (q_X11_bits (0 : Int32) (1 : Int32) y29.1 y29.2.1 y47.1 y47.2) (fun e51 y50 => none) (fun v52 y53 => (if ¬ v46 = v52 then none else (xbnd (q_X11_bits (4 : Int32) (2 : Int32) y29.1 y29.2.1 y53.1 y53.2) (fun e57 y56 => none) (fun v58 y59 => (if v58 = (0 : Int32) then (xbnd (q_X11_common (5 : Int32) (0 : Int32) (1 : Int32) y29.1 y29.2.1 y59.1 y59.2 y29.2.2.2.2.1 y29.2.2.2.2.2.1 y29.2.2.2.2.2.2.1 y29.2.2.2.2.2.2.2) (fun e63 y62 => none) (fun v64 y65 => (if v64 < (0 : Int32) then none else ((q_L_divide (6 : Int32) (7 : Int32) (0 : Int32) (5 : Int32) y65.1 y65.2.1 y65.2.2.1 y65.2.2.2.1 y65.2.2.2.2.1 y65.2.2.2.2.2.1 y65.2.2.2.2.2.2.1 y65.2.2.2.2.2.2.2).bind (fun y68 => (if ¬ y68.1 = (-1 : Int32) then none else ((q_L_divide (6 : Int32) (7 : Int32) (1 : Int32) (5 : Int32) y68.2.2.1 y68.2.2.2.1 y68.2.2.2.2.1 y68.2.2.2.2.2.1 y68.2.2.2.2.2.2.1 y68.2.2.2.2.2.2.2.1 y68.2.2.2.2.2.2.2.2.1 y68.2.2.2.2.2.2.2.2.2).bind (fun y71 => (if ¬ y71.1 = (-1 : Int32) then none else (some ((1 : Int32), y71.2.2.1, y71.2.2.2.1, y71.2.2.2.2.2.2.2.2.1, y71.2.2.2.2.2.2.2.2.2, y71.2.2.2.2.1, y71.2.2.2.2.2.1, y71.2.2.2.2.2.2.1, y71.2.2.2.2.2.2.2.1))))))))))) else none))))))))))))) else none))) else (if v13 ≤ v5 then none else (xbnd (q_X11_join (4 : Int32) (4 : Int32) (3 : Int32) (0 : Int32) y23.1 y23.2.1 y23.2.2.1 y23.2.2.2.1 y23.2.2.2.2.1 y23.2.2.2.2.2.1 y23.2.2.2.2.2.2.1 y23.2.2.2.2.2.2.2) (fun e75 y74 => none) (fun v76 y77 => (if v76 = v5 then (xbnd (q_X11_bits (4 : Int32) (0 : Int32) y77.1 y77.2.1 y77.2.2.1 y77.2.2.2.1) (fun e81 y80 => none) (fun v82 y83 => (xbnd (q_X11_bits (0 : Int32) (0 : Int32) y77.1 y77.2.1 y83.1 y83.2) (fun e87 y86 => none) (fun v88 y89 => (if ¬ v82 = v88 then none else (xbnd (q_X11_bits (4 : Int32) (1 : Int32) y77.1 y77.2.1 y89.1 y89.2) (fun e93 y92 => none) (fun v94 y95 => (xbnd (q_X11_bits (0 : Int32) (1 : Int32) y77.1 y77.2.1 y95.1 y95.2) (fun e99 y98 => none) (fun v100 y101 => (if ¬ v94 = v100 then none else (xbnd (q_X11_bits (4 : Int32) (2 : Int32) y77.1 y77.2.1 y101.1 y101.2) (fun e105 y104 => none) (fun v106 y107 => (if v106 = (0 : Int32) then (xbnd (q_X11_common (5 : Int32) (0 : Int32) (1 : Int32) y77.1 y77.2.1 y107.1 y107.2 y77.2.2.2.2.1 y77.2.2.2.2.2.1 y77.2.2.2.2.2.2.1 y77.2.2.2.2.2.2.2) (fun e111 y110 => none) (fun v112 y113 => (if v112 < (0 : Int32) then none else ((q_L_divide (6 : Int32) (7 : Int32) (0 : Int32) (5 : Int32) y113.1 y113.2.1 y113.2.2.1 y113.2.2.2.1 y113.2.2.2.2.1 y113.2.2.2.2.2.1 y113.2.2.2.2.2.2.1 y113.2.2.2.2.2.2.2).bind (fun y116 => (if ¬ y116.1 = (-1 : Int32) then none else ((q_L_divide (6 : Int32) (7 : Int32) (1 : Int32) (5 : Int32) y116.2.2.1 y116.2.2.2.1 y116.2.2.2.2.1 y116.2.2.2.2.2.1 y116.2.2.2.2.2.2.1 y116.2.2.2.2.2.2.2.1 y116.2.2.2.2.2.2.2.2.1 y116.2.2.2.2.2.2.2.2.2).bind (fun y119 => (if ¬ y119.1 = (-1 : Int32) then none else (some ((1 : Int32), y119.2.2.1, y119.2.2.2.1, y119.2.2.2.2.2.2.2.2.1, y119.2.2.2.2.2.2.2.2.2, y119.2.2.2.2.1, y119.2.2.2.2.2.1, y119.2.2.2.2.2.2.1, y119.2.2.2.2.2.2.2.1))))))))))) else none))))))))))))) else none))))))))))))))))))))))
set_option maxHeartbeats 4000000 in
theorem C_L_isDivision {S : Nat × (Nat → Int32)} {d : Nat} {H : List xE} {z : Bool × Nat × Nat} {a10 : Nat → Int64} {a11 : Nat → Int64} {c14_0 : Int64} {c14_1 : Int64} {c12_0 : Int64} {c12_1 : Int64} {c13_0 : Int64} {c13_1 : Int64} (hi : xIn (H, z)) (hz : z.2.1 + 3 ≤ 1000000) (u_10 : H[10]? = some (.inl (1, 8, .inr (.inl a10)))) (u_11 : H[11]? = some (.inl (1, 8, .inr (.inl a11)))) (u_14 : H[14]? = some (.inr (3, [.long c14_0, .long c14_1]))) (u_0 : H[0]? = some (oO)) (u_12 : H[12]? = some (.inr (3, [.long c12_0, .long c12_1]))) (u_13 : H[13]? = some (.inr (3, [.long c13_0, .long c13_1]))) {x : (Int32 × (Nat → Int64) × (Nat → Int64) × Int64 × Int64 × Int64 × Int64 × Int64 × Int64)} (h : q_L_isDivision S a10 a11 c14_0 c14_1 c12_0 c12_1 c13_0 c13_1 = some x) : ∃ M' : xM, Cm S (d + 5) 173 [.ref 0, .ref 1000002] (H, z) (.inr (some (.int x.1)), M') ∧ M'.1[10]? = some (.inl (1, 8, .inr (.inl x.2.1))) ∧ M'.1[11]? = some (.inl (1, 8, .inr (.inl x.2.2.1))) ∧ M'.1[14]? = some (.inr (3, [.long x.2.2.2.1, .long x.2.2.2.2.1])) ∧ M'.1[12]? = some (.inr (3, [.long x.2.2.2.2.2.1, .long x.2.2.2.2.2.2.1])) ∧ M'.1[13]? = some (.inr (3, [.long x.2.2.2.2.2.2.2.1, .long x.2.2.2.2.2.2.2.2])) ∧ xG 3 [10, 11, 14, 12, 13] (H, z) M' := by
  have G : Go S (d + 5) 173 (0, [some (.ref 0), some (.ref 1000002), none, none, none, none], []) (H, z) (fun _ _ => False) (fun r => ∃ M' : xM, r = (.inr (some (.int x.1)), M') ∧ M'.1[10]? = some (.inl (1, 8, .inr (.inl x.2.1))) ∧ M'.1[11]? = some (.inl (1, 8, .inr (.inl x.2.2.1))) ∧ M'.1[14]? = some (.inr (3, [.long x.2.2.2.1, .long x.2.2.2.2.1])) ∧ M'.1[12]? = some (.inr (3, [.long x.2.2.2.2.2.1, .long x.2.2.2.2.2.2.1])) ∧ M'.1[13]? = some (.inr (3, [.long x.2.2.2.2.2.2.2.1, .long x.2.2.2.2.2.2.2.2])) ∧ xG 3 [10, 11, 14, 12, 13] (H, z) M') := by
    have G0 : xG 0 [10, 11, 14, 12, 13] (H, z) (H, z) := xG_refl hi
    unfold q_L_isDivision at h
    refine go_step (fun _ => ev_run 4 (F' := (5, [some (.ref 0), some (.ref 1000002), none, none, none, none], [.int (107 : Int32), .ref 1000002, .int (0 : Int32), .ref 0])) rfl) ?_
    obtain ⟨y1, hy1, h⟩ := okb h
    refine go_step (F1 := (8, [some (.ref 0), some (.ref 1000002), none, none, none, none], [.int y1, .int (0 : Int32), .ref 0])) (M1 := (H, z)) (fun _ => ev_call (x := (.invokestatic 42, 3, 159, 11, 649, .null)) (as := [.ref 1000002, .int (107 : Int32)]) (rest := [.int (0 : Int32), .ref 0]) rfl rfl (C_L_cell (S := S) (d := d + 3) (z := z) (x1 := (107 : Int32)) (xG_ro G0 hz (by decide) (by decide)) hy1) rfl) ?_
    refine go_step (fun _ => ev_run 2 (F' := (11, [some (.ref 0), some (.ref 1000002), none, none, none, none], [.int (108 : Int32), .ref 1000002, .int y1, .int (0 : Int32), .ref 0])) rfl) ?_
    obtain ⟨y2, hy2, h⟩ := okb h
    refine go_step (F1 := (14, [some (.ref 0), some (.ref 1000002), none, none, none, none], [.int y2, .int y1, .int (0 : Int32), .ref 0])) (M1 := (H, z)) (fun _ => ev_call (x := (.invokestatic 42, 3, 159, 11, 649, .null)) (as := [.ref 1000002, .int (108 : Int32)]) (rest := [.int y1, .int (0 : Int32), .ref 0]) rfl rfl (C_L_cell (S := S) (d := d + 3) (z := z) (x1 := (108 : Int32)) (xG_ro G0 hz (by decide) (by decide)) hy2) rfl) ?_
    rcases okx h with ⟨e4, y3, hy3, h⟩ | ⟨v5, y6, hy6, h⟩
    · cases h
    · skip
      obtain ⟨H7, hCH7, eH7_10, eH7_11, eH7_14, fH7⟩ := C_X11_polynomial (S := S) (d := d + 1) (z := z) (x1 := (0 : Int32)) (x2 := y1) (x3 := y2) u_0 u_10 u_11 u_14 hy6
      have G8 := xG_w G0 fH7 rfl rfl
      refine go_step (F1 := (17, [some (.ref 0), some (.ref 1000002), none, none, none, none], [.int v5])) (M1 := (H7, z)) (fun _ => ev_callV (x := (.invokevirtual 128, 3, 111, 10, 807, .null)) (as := [.int (0 : Int32), .int y1, .int y2]) (rest := []) rfl rfl u_0 hCH7 rfl) ?_
      refine go_step (fun _ => ev_run 5 (F' := (23, [some (.ref 0), some (.ref 1000002), some (.int v5), none, none, none], [.int (109 : Int32), .ref 1000002, .int (1 : Int32), .ref 0])) rfl) ?_
      obtain ⟨y9, hy9, h⟩ := okb h
      refine go_step (F1 := (26, [some (.ref 0), some (.ref 1000002), some (.int v5), none, none, none], [.int y9, .int (1 : Int32), .ref 0])) (M1 := (H7, z)) (fun _ => ev_call (x := (.invokestatic 42, 3, 159, 11, 649, .null)) (as := [.ref 1000002, .int (109 : Int32)]) (rest := [.int (1 : Int32), .ref 0]) rfl rfl (C_L_cell (S := S) (d := d + 3) (z := z) (x1 := (109 : Int32)) (xG_ro G8 hz (by decide) (by decide)) hy9) rfl) ?_
      refine go_step (fun _ => ev_run 5 (F' := (33, [some (.ref 0), some (.ref 1000002), some (.int v5), none, none, none], [.int (64 : Int32), .int (110 : Int32), .ref 1000002, .int (y9 ||| (1 : Int32)), .int (1 : Int32), .ref 0])) rfl) ?_
      obtain ⟨y10, hy10, h⟩ := okb h
      refine go_step (F1 := (36, [some (.ref 0), some (.ref 1000002), some (.int v5), none, none, none], [.int y10, .int (y9 ||| (1 : Int32)), .int (1 : Int32), .ref 0])) (M1 := (H7, z)) (fun _ => ev_call (x := (.invokestatic 89, 3, 160, 11, 659, .null)) (as := [.ref 1000002, .int (110 : Int32), .int (64 : Int32)]) (rest := [.int (y9 ||| (1 : Int32)), .int (1 : Int32), .ref 0]) rfl rfl (C_L_some (S := S) (d := d + 2) (z := z) (x1 := (110 : Int32)) (x2 := (64 : Int32)) (xG_ro G8 hz (by decide) (by decide)) hy10) rfl) ?_
      rcases okx h with ⟨e12, y11, hy11, h⟩ | ⟨v13, y14, hy14, h⟩
      · cases h
      · skip
        obtain ⟨H15, hCH15, eH15_10, eH15_11, eH15_14, fH15⟩ := C_X11_polynomial (S := S) (d := d + 1) (z := z) (x1 := (1 : Int32)) (x2 := (y9 ||| (1 : Int32))) (x3 := y10) ((fH7 0 rfl).trans u_0) eH7_10 eH7_11 eH7_14 hy14
        have G16 := xG_w G8 fH15 rfl rfl
        refine go_step (F1 := (39, [some (.ref 0), some (.ref 1000002), some (.int v5), none, none, none], [.int v13])) (M1 := (H15, z)) (fun _ => ev_callV (x := (.invokevirtual 128, 3, 111, 10, 807, .null)) (as := [.int (1 : Int32), .int (y9 ||| (1 : Int32)), .int y10]) (rest := []) rfl rfl ((fH7 0 rfl).trans u_0) hCH15 rfl) ?_
        refine go_step (fun _ => ev_run 6 (F' := (45, [some (.ref 0), some (.ref 1000002), some (.int v5), some (.int v13), none, none], [.int (1 : Int32), .int (0 : Int32), .int (3 : Int32), .int (2 : Int32), .ref 0])) rfl) ?_
        obtain ⟨y17, hy17, h⟩ := okb h
        obtain ⟨H18, hCH18, eH18_10, eH18_11, eH18_12, eH18_13, eH18_14, fH18⟩ := C_L_divide (S := S) (d := d) (z := z) (x1 := (2 : Int32)) (x2 := (3 : Int32)) (x3 := (0 : Int32)) (x4 := (1 : Int32)) eH15_10 eH15_11 ((fH15 12 rfl).trans ((fH7 12 rfl).trans u_12)) ((fH15 13 rfl).trans ((fH7 13 rfl).trans u_13)) eH15_14 ((fH15 0 rfl).trans ((fH7 0 rfl).trans u_0)) hy17
        have G19 := xG_zw (v := y17.2.1) G16 fH18 rfl rfl
        refine go_step (F1 := (48, [some (.ref 0), some (.ref 1000002), some (.int v5), some (.int v13), none, none], [.int y17.1])) (M1 := (H18, (zX y17.2.1 z))) (fun _ => ev_call (x := (.invokestatic 142, 3, 166, 11, 903, .null)) (as := [.ref 0, .int (2 : Int32), .int (3 : Int32), .int (0 : Int32), .int (1 : Int32)]) (rest := []) rfl rfl hCH18 rfl) ?_
        refine go_step (fun _ => ev_run 3 (F' := (53, [some (.ref 0), some (.ref 1000002), some (.int v5), some (.int v13), some (.int y17.1), none], [.int v13, .int y17.1])) rfl) ?_
        refine go_icmp rfl (fun (b53 : v13 ≤ y17.1) => ?_) (fun (b53 : ¬ (v13 ≤ y17.1)) => ?_)
        · have h := (if_pos b53).symm.trans h
          refine go_step (fun _ => ev_run 1 (F' := (90, [some (.ref 0), some (.ref 1000002), some (.int v5), some (.int v13), some (.int y17.1), none], [.int (0 : Int32)])) rfl) ?_
          cases h
        · have h := (if_neg b53).symm.trans h
          refine go_step (fun _ => ev_run 5 (F' := (61, [some (.ref 0), some (.ref 1000002), some (.int v5), some (.int v13), some (.int y17.1), none], [.int (1 : Int32), .int (1 : Int32), .int (2 : Int32), .int (4 : Int32), .ref 0])) rfl) ?_
          rcases okx h with ⟨e21, y20, hy20, h⟩ | ⟨v22, y23, hy23, h⟩
          · cases h
          · skip
            obtain ⟨H24, hCH24, eH24_10, eH24_11, eH24_12, eH24_13, eH24_14, fH24⟩ := C_X11_join (S := S) (d := d + 1) (z := (zX y17.2.1 z)) (x1 := (4 : Int32)) (x2 := (2 : Int32)) (x3 := (1 : Int32)) (x4 := (1 : Int32)) ((fH18 0 rfl).trans ((fH15 0 rfl).trans ((fH7 0 rfl).trans u_0))) eH18_10 eH18_11 eH18_12 eH18_13 eH18_14 hy23
            have G25 := xG_w G19 fH24 rfl rfl
            refine go_step (F1 := (64, [some (.ref 0), some (.ref 1000002), some (.int v5), some (.int v13), some (.int y17.1), none], [.int v22])) (M1 := (H24, (zX y17.2.1 z))) (fun _ => ev_callV (x := (.invokevirtual 131, 3, 114, 10, 836, .null)) (as := [.int (4 : Int32), .int (2 : Int32), .int (1 : Int32), .int (1 : Int32)]) (rest := []) rfl rfl ((fH18 0 rfl).trans ((fH15 0 rfl).trans ((fH7 0 rfl).trans u_0))) hCH24 rfl) ?_
            refine go_step (fun _ => ev_run 3 (F' := (69, [some (.ref 0), some (.ref 1000002), some (.int v5), some (.int v13), some (.int y17.1), none], [.int (if v5 < v13 then v13 else v5), .int v22])) rfl) ?_
            refine go_icmp rfl (fun (b69 : v22 ≤ (if v5 < v13 then v13 else v5)) => ?_) (fun (b69 : ¬ (v22 ≤ (if v5 < v13 then v13 else v5))) => ?_)
            · have h := (if_pos b69).symm.trans h
              refine go_step (fun _ => ev_run 5 (F' := (82, [some (.ref 0), some (.ref 1000002), some (.int v5), some (.int v13), some (.int y17.1), none], [.int (0 : Int32), .int (3 : Int32), .int (4 : Int32), .int (4 : Int32), .ref 0])) rfl) ?_
              rcases okx h with ⟨e27, y26, hy26, h⟩ | ⟨v28, y29, hy29, h⟩
              · cases h
              · skip
                obtain ⟨H30, hCH30, eH30_10, eH30_11, eH30_12, eH30_13, eH30_14, fH30⟩ := C_X11_join (S := S) (d := d + 1) (z := (zX y17.2.1 z)) (x1 := (4 : Int32)) (x2 := (4 : Int32)) (x3 := (3 : Int32)) (x4 := (0 : Int32)) ((fH24 0 rfl).trans ((fH18 0 rfl).trans ((fH15 0 rfl).trans ((fH7 0 rfl).trans u_0)))) eH24_10 eH24_11 eH24_12 eH24_13 eH24_14 hy29
                have G31 := xG_w G25 fH30 rfl rfl
                refine go_step (F1 := (85, [some (.ref 0), some (.ref 1000002), some (.int v5), some (.int v13), some (.int y17.1), none], [.int v28])) (M1 := (H30, (zX y17.2.1 z))) (fun _ => ev_callV (x := (.invokevirtual 131, 3, 114, 10, 836, .null)) (as := [.int (4 : Int32), .int (4 : Int32), .int (3 : Int32), .int (0 : Int32)]) (rest := []) rfl rfl ((fH24 0 rfl).trans ((fH18 0 rfl).trans ((fH15 0 rfl).trans ((fH7 0 rfl).trans u_0)))) hCH30 rfl) ?_
                refine go_step (fun _ => ev_run 1 (F' := (86, [some (.ref 0), some (.ref 1000002), some (.int v5), some (.int v13), some (.int y17.1), none], [.int v5, .int v28])) rfl) ?_
                refine go_icmp rfl (fun (b86 : v28 = v5) => ?_) (fun (b86 : ¬ (v28 = v5)) => ?_)
                · have h := (if_pos b86).symm.trans h
                  refine go_step (fun _ => ev_run 3 (F' := (94, [some (.ref 0), some (.ref 1000002), some (.int v5), some (.int v13), some (.int y17.1), none], [.int (0 : Int32), .int (4 : Int32), .ref 0])) rfl) ?_
                  rcases okx h with ⟨e33, y32, hy32, h⟩ | ⟨v34, y35, hy35, h⟩
                  · cases h
                  · skip
                    obtain ⟨H36, hCH36, eH36_12, fH36⟩ := C_X11_bits (S := S) (d := d + 2) (z := (zX y17.2.1 z)) (x1 := (4 : Int32)) (x2 := (0 : Int32)) ((fH30 0 rfl).trans ((fH24 0 rfl).trans ((fH18 0 rfl).trans ((fH15 0 rfl).trans ((fH7 0 rfl).trans u_0))))) eH30_10 eH30_11 eH30_12 hy35
                    have G37 := xG_w G31 fH36 rfl rfl
                    refine go_step (F1 := (97, [some (.ref 0), some (.ref 1000002), some (.int v5), some (.int v13), some (.int y17.1), none], [.int v34])) (M1 := (H36, (zX y17.2.1 z))) (fun _ => ev_callV (x := (.invokevirtual 145, 3, 113, 10, 912, .null)) (as := [.int (4 : Int32), .int (0 : Int32)]) (rest := []) rfl rfl ((fH30 0 rfl).trans ((fH24 0 rfl).trans ((fH18 0 rfl).trans ((fH15 0 rfl).trans ((fH7 0 rfl).trans u_0))))) hCH36 rfl) ?_
                    refine go_step (fun _ => ev_run 3 (F' := (100, [some (.ref 0), some (.ref 1000002), some (.int v5), some (.int v13), some (.int y17.1), none], [.int (0 : Int32), .int (0 : Int32), .ref 0, .int v34])) rfl) ?_
                    rcases okx h with ⟨e39, y38, hy38, h⟩ | ⟨v40, y41, hy41, h⟩
                    · cases h
                    · skip
                      obtain ⟨H42, hCH42, eH42_12, fH42⟩ := C_X11_bits (S := S) (d := d + 2) (z := (zX y17.2.1 z)) (x1 := (0 : Int32)) (x2 := (0 : Int32)) ((fH36 0 rfl).trans ((fH30 0 rfl).trans ((fH24 0 rfl).trans ((fH18 0 rfl).trans ((fH15 0 rfl).trans ((fH7 0 rfl).trans u_0)))))) ((fH36 10 rfl).trans eH30_10) ((fH36 11 rfl).trans eH30_11) eH36_12 hy41
                      have G43 := xG_w G37 fH42 rfl rfl
                      refine go_step (F1 := (103, [some (.ref 0), some (.ref 1000002), some (.int v5), some (.int v13), some (.int y17.1), none], [.int v40, .int v34])) (M1 := (H42, (zX y17.2.1 z))) (fun _ => ev_callV (x := (.invokevirtual 145, 3, 113, 10, 912, .null)) (as := [.int (0 : Int32), .int (0 : Int32)]) (rest := [.int v34]) rfl rfl ((fH36 0 rfl).trans ((fH30 0 rfl).trans ((fH24 0 rfl).trans ((fH18 0 rfl).trans ((fH15 0 rfl).trans ((fH7 0 rfl).trans u_0)))))) hCH42 rfl) ?_
                      refine go_icmp rfl (fun (b103 : ¬ v34 = v40) => ?_) (fun (b103 : ¬ (¬ v34 = v40)) => ?_)
                      · have h := (if_pos b103).symm.trans h
                        refine go_step (fun _ => ev_run 1 (F' := (131, [some (.ref 0), some (.ref 1000002), some (.int v5), some (.int v13), some (.int y17.1), none], [.int (0 : Int32)])) rfl) ?_
                        cases h
                      · have h := (if_neg b103).symm.trans h
                        refine go_step (fun _ => ev_run 3 (F' := (109, [some (.ref 0), some (.ref 1000002), some (.int v5), some (.int v13), some (.int y17.1), none], [.int (1 : Int32), .int (4 : Int32), .ref 0])) rfl) ?_
                        rcases okx h with ⟨e45, y44, hy44, h⟩ | ⟨v46, y47, hy47, h⟩
                        · cases h
                        · skip
                          obtain ⟨H48, hCH48, eH48_12, fH48⟩ := C_X11_bits (S := S) (d := d + 2) (z := (zX y17.2.1 z)) (x1 := (4 : Int32)) (x2 := (1 : Int32)) ((fH42 0 rfl).trans ((fH36 0 rfl).trans ((fH30 0 rfl).trans ((fH24 0 rfl).trans ((fH18 0 rfl).trans ((fH15 0 rfl).trans ((fH7 0 rfl).trans u_0))))))) ((fH42 10 rfl).trans ((fH36 10 rfl).trans eH30_10)) ((fH42 11 rfl).trans ((fH36 11 rfl).trans eH30_11)) eH42_12 hy47
                          have G49 := xG_w G43 fH48 rfl rfl
                          refine go_step (F1 := (112, [some (.ref 0), some (.ref 1000002), some (.int v5), some (.int v13), some (.int y17.1), none], [.int v46])) (M1 := (H48, (zX y17.2.1 z))) (fun _ => ev_callV (x := (.invokevirtual 145, 3, 113, 10, 912, .null)) (as := [.int (4 : Int32), .int (1 : Int32)]) (rest := []) rfl rfl ((fH42 0 rfl).trans ((fH36 0 rfl).trans ((fH30 0 rfl).trans ((fH24 0 rfl).trans ((fH18 0 rfl).trans ((fH15 0 rfl).trans ((fH7 0 rfl).trans u_0))))))) hCH48 rfl) ?_
                          refine go_step (fun _ => ev_run 3 (F' := (115, [some (.ref 0), some (.ref 1000002), some (.int v5), some (.int v13), some (.int y17.1), none], [.int (1 : Int32), .int (0 : Int32), .ref 0, .int v46])) rfl) ?_
                          rcases okx h with ⟨e51, y50, hy50, h⟩ | ⟨v52, y53, hy53, h⟩
                          · cases h
                          · skip
                            obtain ⟨H54, hCH54, eH54_12, fH54⟩ := C_X11_bits (S := S) (d := d + 2) (z := (zX y17.2.1 z)) (x1 := (0 : Int32)) (x2 := (1 : Int32)) ((fH48 0 rfl).trans ((fH42 0 rfl).trans ((fH36 0 rfl).trans ((fH30 0 rfl).trans ((fH24 0 rfl).trans ((fH18 0 rfl).trans ((fH15 0 rfl).trans ((fH7 0 rfl).trans u_0)))))))) ((fH48 10 rfl).trans ((fH42 10 rfl).trans ((fH36 10 rfl).trans eH30_10))) ((fH48 11 rfl).trans ((fH42 11 rfl).trans ((fH36 11 rfl).trans eH30_11))) eH48_12 hy53
                            have G55 := xG_w G49 fH54 rfl rfl
                            refine go_step (F1 := (118, [some (.ref 0), some (.ref 1000002), some (.int v5), some (.int v13), some (.int y17.1), none], [.int v52, .int v46])) (M1 := (H54, (zX y17.2.1 z))) (fun _ => ev_callV (x := (.invokevirtual 145, 3, 113, 10, 912, .null)) (as := [.int (0 : Int32), .int (1 : Int32)]) (rest := [.int v46]) rfl rfl ((fH48 0 rfl).trans ((fH42 0 rfl).trans ((fH36 0 rfl).trans ((fH30 0 rfl).trans ((fH24 0 rfl).trans ((fH18 0 rfl).trans ((fH15 0 rfl).trans ((fH7 0 rfl).trans u_0)))))))) hCH54 rfl) ?_
                            refine go_icmp rfl (fun (b118 : ¬ v46 = v52) => ?_) (fun (b118 : ¬ (¬ v46 = v52)) => ?_)
                            · have h := (if_pos b118).symm.trans h
                              refine go_step (fun _ => ev_run 1 (F' := (131, [some (.ref 0), some (.ref 1000002), some (.int v5), some (.int v13), some (.int y17.1), none], [.int (0 : Int32)])) rfl) ?_
                              cases h
                            · have h := (if_neg b118).symm.trans h
                              refine go_step (fun _ => ev_run 3 (F' := (124, [some (.ref 0), some (.ref 1000002), some (.int v5), some (.int v13), some (.int y17.1), none], [.int (2 : Int32), .int (4 : Int32), .ref 0])) rfl) ?_
                              rcases okx h with ⟨e57, y56, hy56, h⟩ | ⟨v58, y59, hy59, h⟩
                              · cases h
                              · skip
                                obtain ⟨H60, hCH60, eH60_12, fH60⟩ := C_X11_bits (S := S) (d := d + 2) (z := (zX y17.2.1 z)) (x1 := (4 : Int32)) (x2 := (2 : Int32)) ((fH54 0 rfl).trans ((fH48 0 rfl).trans ((fH42 0 rfl).trans ((fH36 0 rfl).trans ((fH30 0 rfl).trans ((fH24 0 rfl).trans ((fH18 0 rfl).trans ((fH15 0 rfl).trans ((fH7 0 rfl).trans u_0))))))))) ((fH54 10 rfl).trans ((fH48 10 rfl).trans ((fH42 10 rfl).trans ((fH36 10 rfl).trans eH30_10)))) ((fH54 11 rfl).trans ((fH48 11 rfl).trans ((fH42 11 rfl).trans ((fH36 11 rfl).trans eH30_11)))) eH54_12 hy59
                                have G61 := xG_w G55 fH60 rfl rfl
                                refine go_step (F1 := (127, [some (.ref 0), some (.ref 1000002), some (.int v5), some (.int v13), some (.int y17.1), none], [.int v58])) (M1 := (H60, (zX y17.2.1 z))) (fun _ => ev_callV (x := (.invokevirtual 145, 3, 113, 10, 912, .null)) (as := [.int (4 : Int32), .int (2 : Int32)]) (rest := []) rfl rfl ((fH54 0 rfl).trans ((fH48 0 rfl).trans ((fH42 0 rfl).trans ((fH36 0 rfl).trans ((fH30 0 rfl).trans ((fH24 0 rfl).trans ((fH18 0 rfl).trans ((fH15 0 rfl).trans ((fH7 0 rfl).trans u_0))))))))) hCH60 rfl) ?_
                                refine go_if rfl (fun (b127 : v58 = (0 : Int32)) => ?_) (fun (b127 : ¬ (v58 = (0 : Int32))) => ?_)
                                · have h := (if_pos b127).symm.trans h
                                  refine go_step (fun _ => ev_run 4 (F' := (136, [some (.ref 0), some (.ref 1000002), some (.int v5), some (.int v13), some (.int y17.1), none], [.int (1 : Int32), .int (0 : Int32), .int (5 : Int32), .ref 0])) rfl) ?_
                                  rcases okx h with ⟨e63, y62, hy62, h⟩ | ⟨v64, y65, hy65, h⟩
                                  · cases h
                                  · skip
                                    obtain ⟨H66, hCH66, eH66_10, eH66_11, eH66_12, eH66_13, eH66_14, fH66⟩ := C_X11_common (S := S) (d := d + 1) (z := (zX y17.2.1 z)) (x1 := (5 : Int32)) (x2 := (0 : Int32)) (x3 := (1 : Int32)) ((fH60 0 rfl).trans ((fH54 0 rfl).trans ((fH48 0 rfl).trans ((fH42 0 rfl).trans ((fH36 0 rfl).trans ((fH30 0 rfl).trans ((fH24 0 rfl).trans ((fH18 0 rfl).trans ((fH15 0 rfl).trans ((fH7 0 rfl).trans u_0)))))))))) ((fH60 10 rfl).trans ((fH54 10 rfl).trans ((fH48 10 rfl).trans ((fH42 10 rfl).trans ((fH36 10 rfl).trans eH30_10))))) ((fH60 11 rfl).trans ((fH54 11 rfl).trans ((fH48 11 rfl).trans ((fH42 11 rfl).trans ((fH36 11 rfl).trans eH30_11))))) eH60_12 ((fH60 13 rfl).trans ((fH54 13 rfl).trans ((fH48 13 rfl).trans ((fH42 13 rfl).trans ((fH36 13 rfl).trans eH30_13))))) ((fH60 14 rfl).trans ((fH54 14 rfl).trans ((fH48 14 rfl).trans ((fH42 14 rfl).trans ((fH36 14 rfl).trans eH30_14))))) hy65
                                    have G67 := xG_w G61 fH66 rfl rfl
                                    refine go_step (F1 := (139, [some (.ref 0), some (.ref 1000002), some (.int v5), some (.int v13), some (.int y17.1), none], [.int v64])) (M1 := (H66, (zX y17.2.1 z))) (fun _ => ev_callV (x := (.invokevirtual 158, 3, 116, 10, 995, .null)) (as := [.int (5 : Int32), .int (0 : Int32), .int (1 : Int32)]) (rest := []) rfl rfl ((fH60 0 rfl).trans ((fH54 0 rfl).trans ((fH48 0 rfl).trans ((fH42 0 rfl).trans ((fH36 0 rfl).trans ((fH30 0 rfl).trans ((fH24 0 rfl).trans ((fH18 0 rfl).trans ((fH15 0 rfl).trans ((fH7 0 rfl).trans u_0)))))))))) hCH66 rfl) ?_
                                    refine go_step (fun _ => ev_run 2 (F' := (143, [some (.ref 0), some (.ref 1000002), some (.int v5), some (.int v13), some (.int y17.1), some (.int v64)], [.int v64])) rfl) ?_
                                    refine go_if rfl (fun (b143 : v64 < (0 : Int32)) => ?_) (fun (b143 : ¬ (v64 < (0 : Int32))) => ?_)
                                    · have h := (if_pos b143).symm.trans h
                                      refine go_step (fun _ => ev_run 1 (F' := (179, [some (.ref 0), some (.ref 1000002), some (.int v5), some (.int v13), some (.int y17.1), some (.int v64)], [.int (0 : Int32)])) rfl) ?_
                                      cases h
                                    · have h := (if_neg b143).symm.trans h
                                      refine go_step (fun _ => ev_run 5 (F' := (153, [some (.ref 0), some (.ref 1000002), some (.int v5), some (.int v13), some (.int y17.1), some (.int v64)], [.int (5 : Int32), .int (0 : Int32), .int (7 : Int32), .int (6 : Int32), .ref 0])) rfl) ?_
                                      obtain ⟨y68, hy68, h⟩ := okb h
                                      obtain ⟨H69, hCH69, eH69_10, eH69_11, eH69_12, eH69_13, eH69_14, fH69⟩ := C_L_divide (S := S) (d := d) (z := (zX y17.2.1 z)) (x1 := (6 : Int32)) (x2 := (7 : Int32)) (x3 := (0 : Int32)) (x4 := (5 : Int32)) eH66_10 eH66_11 eH66_12 eH66_13 eH66_14 ((fH66 0 rfl).trans ((fH60 0 rfl).trans ((fH54 0 rfl).trans ((fH48 0 rfl).trans ((fH42 0 rfl).trans ((fH36 0 rfl).trans ((fH30 0 rfl).trans ((fH24 0 rfl).trans ((fH18 0 rfl).trans ((fH15 0 rfl).trans ((fH7 0 rfl).trans u_0))))))))))) hy68
                                      have G70 := xG_zw (v := y68.2.1) G67 fH69 rfl rfl
                                      refine go_step (F1 := (156, [some (.ref 0), some (.ref 1000002), some (.int v5), some (.int v13), some (.int y17.1), some (.int v64)], [.int y68.1])) (M1 := (H69, (zX y68.2.1 (zX y17.2.1 z)))) (fun _ => ev_call (x := (.invokestatic 142, 3, 166, 11, 903, .null)) (as := [.ref 0, .int (6 : Int32), .int (7 : Int32), .int (0 : Int32), .int (5 : Int32)]) (rest := []) rfl rfl hCH69 rfl) ?_
                                      refine go_step (fun _ => ev_run 1 (F' := (157, [some (.ref 0), some (.ref 1000002), some (.int v5), some (.int v13), some (.int y17.1), some (.int v64)], [.int (-1 : Int32), .int y68.1])) rfl) ?_
                                      refine go_icmp rfl (fun (b157 : ¬ y68.1 = (-1 : Int32)) => ?_) (fun (b157 : ¬ (¬ y68.1 = (-1 : Int32))) => ?_)
                                      · have h := (if_pos b157).symm.trans h
                                        refine go_step (fun _ => ev_run 1 (F' := (179, [some (.ref 0), some (.ref 1000002), some (.int v5), some (.int v13), some (.int y17.1), some (.int v64)], [.int (0 : Int32)])) rfl) ?_
                                        cases h
                                      · have h := (if_neg b157).symm.trans h
                                        refine go_step (fun _ => ev_run 5 (F' := (167, [some (.ref 0), some (.ref 1000002), some (.int v5), some (.int v13), some (.int y17.1), some (.int v64)], [.int (5 : Int32), .int (1 : Int32), .int (7 : Int32), .int (6 : Int32), .ref 0])) rfl) ?_
                                        obtain ⟨y71, hy71, h⟩ := okb h
                                        obtain ⟨H72, hCH72, eH72_10, eH72_11, eH72_12, eH72_13, eH72_14, fH72⟩ := C_L_divide (S := S) (d := d) (z := (zX y68.2.1 (zX y17.2.1 z))) (x1 := (6 : Int32)) (x2 := (7 : Int32)) (x3 := (1 : Int32)) (x4 := (5 : Int32)) eH69_10 eH69_11 eH69_12 eH69_13 eH69_14 ((fH69 0 rfl).trans ((fH66 0 rfl).trans ((fH60 0 rfl).trans ((fH54 0 rfl).trans ((fH48 0 rfl).trans ((fH42 0 rfl).trans ((fH36 0 rfl).trans ((fH30 0 rfl).trans ((fH24 0 rfl).trans ((fH18 0 rfl).trans ((fH15 0 rfl).trans ((fH7 0 rfl).trans u_0)))))))))))) hy71
                                        have G73 := xG_zw (v := y71.2.1) G70 fH72 rfl rfl
                                        refine go_step (F1 := (170, [some (.ref 0), some (.ref 1000002), some (.int v5), some (.int v13), some (.int y17.1), some (.int v64)], [.int y71.1])) (M1 := (H72, (zX y71.2.1 (zX y68.2.1 (zX y17.2.1 z))))) (fun _ => ev_call (x := (.invokestatic 142, 3, 166, 11, 903, .null)) (as := [.ref 0, .int (6 : Int32), .int (7 : Int32), .int (1 : Int32), .int (5 : Int32)]) (rest := []) rfl rfl hCH72 rfl) ?_
                                        refine go_step (fun _ => ev_run 1 (F' := (171, [some (.ref 0), some (.ref 1000002), some (.int v5), some (.int v13), some (.int y17.1), some (.int v64)], [.int (-1 : Int32), .int y71.1])) rfl) ?_
                                        refine go_icmp rfl (fun (b171 : ¬ y71.1 = (-1 : Int32)) => ?_) (fun (b171 : ¬ (¬ y71.1 = (-1 : Int32))) => ?_)
                                        · have h := (if_pos b171).symm.trans h
                                          refine go_step (fun _ => ev_run 1 (F' := (179, [some (.ref 0), some (.ref 1000002), some (.int v5), some (.int v13), some (.int y17.1), some (.int v64)], [.int (0 : Int32)])) rfl) ?_
                                          cases h
                                        · have h := (if_neg b171).symm.trans h
                                          refine go_step (fun _ => ev_run 2 (F' := (179, [some (.ref 0), some (.ref 1000002), some (.int v5), some (.int v13), some (.int y17.1), some (.int v64)], [.int (1 : Int32)])) rfl) ?_
                                          cases h
                                          exact Or.inr ⟨_, ev_ret rfl rfl rfl rfl, (H72, (zX y71.2.1 (zX y68.2.1 (zX y17.2.1 z)))), rfl, eH72_10, eH72_11, eH72_14, eH72_12, eH72_13, xG_le G73 (by decide)⟩
                                · have h := (if_neg b127).symm.trans h
                                  refine go_step (fun _ => ev_run 1 (F' := (131, [some (.ref 0), some (.ref 1000002), some (.int v5), some (.int v13), some (.int y17.1), none], [.int (0 : Int32)])) rfl) ?_
                                  cases h
                · have h := (if_neg b86).symm.trans h
                  refine go_step (fun _ => ev_run 1 (F' := (90, [some (.ref 0), some (.ref 1000002), some (.int v5), some (.int v13), some (.int y17.1), none], [.int (0 : Int32)])) rfl) ?_
                  cases h
            · have h := (if_neg b69).symm.trans h
              refine go_step (fun _ => ev_run 2 (F' := (74, [some (.ref 0), some (.ref 1000002), some (.int v5), some (.int v13), some (.int y17.1), none], [.int v13, .int v5])) rfl) ?_
              refine go_icmp rfl (fun (b74 : v13 ≤ v5) => ?_) (fun (b74 : ¬ (v13 ≤ v5)) => ?_)
              · have h := (if_pos b74).symm.trans h
                refine go_step (fun _ => ev_run 1 (F' := (90, [some (.ref 0), some (.ref 1000002), some (.int v5), some (.int v13), some (.int y17.1), none], [.int (0 : Int32)])) rfl) ?_
                cases h
              · have h := (if_neg b74).symm.trans h
                refine go_step (fun _ => ev_run 5 (F' := (82, [some (.ref 0), some (.ref 1000002), some (.int v5), some (.int v13), some (.int y17.1), none], [.int (0 : Int32), .int (3 : Int32), .int (4 : Int32), .int (4 : Int32), .ref 0])) rfl) ?_
                rcases okx h with ⟨e75, y74, hy74, h⟩ | ⟨v76, y77, hy77, h⟩
                · cases h
                · skip
                  obtain ⟨H78, hCH78, eH78_10, eH78_11, eH78_12, eH78_13, eH78_14, fH78⟩ := C_X11_join (S := S) (d := d + 1) (z := (zX y17.2.1 z)) (x1 := (4 : Int32)) (x2 := (4 : Int32)) (x3 := (3 : Int32)) (x4 := (0 : Int32)) ((fH24 0 rfl).trans ((fH18 0 rfl).trans ((fH15 0 rfl).trans ((fH7 0 rfl).trans u_0)))) eH24_10 eH24_11 eH24_12 eH24_13 eH24_14 hy77
                  have G79 := xG_w G25 fH78 rfl rfl
                  refine go_step (F1 := (85, [some (.ref 0), some (.ref 1000002), some (.int v5), some (.int v13), some (.int y17.1), none], [.int v76])) (M1 := (H78, (zX y17.2.1 z))) (fun _ => ev_callV (x := (.invokevirtual 131, 3, 114, 10, 836, .null)) (as := [.int (4 : Int32), .int (4 : Int32), .int (3 : Int32), .int (0 : Int32)]) (rest := []) rfl rfl ((fH24 0 rfl).trans ((fH18 0 rfl).trans ((fH15 0 rfl).trans ((fH7 0 rfl).trans u_0)))) hCH78 rfl) ?_
                  refine go_step (fun _ => ev_run 1 (F' := (86, [some (.ref 0), some (.ref 1000002), some (.int v5), some (.int v13), some (.int y17.1), none], [.int v5, .int v76])) rfl) ?_
                  refine go_icmp rfl (fun (b86 : v76 = v5) => ?_) (fun (b86 : ¬ (v76 = v5)) => ?_)
                  · have h := (if_pos b86).symm.trans h
                    refine go_step (fun _ => ev_run 3 (F' := (94, [some (.ref 0), some (.ref 1000002), some (.int v5), some (.int v13), some (.int y17.1), none], [.int (0 : Int32), .int (4 : Int32), .ref 0])) rfl) ?_
                    rcases okx h with ⟨e81, y80, hy80, h⟩ | ⟨v82, y83, hy83, h⟩
                    · cases h
                    · skip
                      obtain ⟨H84, hCH84, eH84_12, fH84⟩ := C_X11_bits (S := S) (d := d + 2) (z := (zX y17.2.1 z)) (x1 := (4 : Int32)) (x2 := (0 : Int32)) ((fH78 0 rfl).trans ((fH24 0 rfl).trans ((fH18 0 rfl).trans ((fH15 0 rfl).trans ((fH7 0 rfl).trans u_0))))) eH78_10 eH78_11 eH78_12 hy83
                      have G85 := xG_w G79 fH84 rfl rfl
                      refine go_step (F1 := (97, [some (.ref 0), some (.ref 1000002), some (.int v5), some (.int v13), some (.int y17.1), none], [.int v82])) (M1 := (H84, (zX y17.2.1 z))) (fun _ => ev_callV (x := (.invokevirtual 145, 3, 113, 10, 912, .null)) (as := [.int (4 : Int32), .int (0 : Int32)]) (rest := []) rfl rfl ((fH78 0 rfl).trans ((fH24 0 rfl).trans ((fH18 0 rfl).trans ((fH15 0 rfl).trans ((fH7 0 rfl).trans u_0))))) hCH84 rfl) ?_
                      refine go_step (fun _ => ev_run 3 (F' := (100, [some (.ref 0), some (.ref 1000002), some (.int v5), some (.int v13), some (.int y17.1), none], [.int (0 : Int32), .int (0 : Int32), .ref 0, .int v82])) rfl) ?_
                      rcases okx h with ⟨e87, y86, hy86, h⟩ | ⟨v88, y89, hy89, h⟩
                      · cases h
                      · skip
                        obtain ⟨H90, hCH90, eH90_12, fH90⟩ := C_X11_bits (S := S) (d := d + 2) (z := (zX y17.2.1 z)) (x1 := (0 : Int32)) (x2 := (0 : Int32)) ((fH84 0 rfl).trans ((fH78 0 rfl).trans ((fH24 0 rfl).trans ((fH18 0 rfl).trans ((fH15 0 rfl).trans ((fH7 0 rfl).trans u_0)))))) ((fH84 10 rfl).trans eH78_10) ((fH84 11 rfl).trans eH78_11) eH84_12 hy89
                        have G91 := xG_w G85 fH90 rfl rfl
                        refine go_step (F1 := (103, [some (.ref 0), some (.ref 1000002), some (.int v5), some (.int v13), some (.int y17.1), none], [.int v88, .int v82])) (M1 := (H90, (zX y17.2.1 z))) (fun _ => ev_callV (x := (.invokevirtual 145, 3, 113, 10, 912, .null)) (as := [.int (0 : Int32), .int (0 : Int32)]) (rest := [.int v82]) rfl rfl ((fH84 0 rfl).trans ((fH78 0 rfl).trans ((fH24 0 rfl).trans ((fH18 0 rfl).trans ((fH15 0 rfl).trans ((fH7 0 rfl).trans u_0)))))) hCH90 rfl) ?_
                        refine go_icmp rfl (fun (b103 : ¬ v82 = v88) => ?_) (fun (b103 : ¬ (¬ v82 = v88)) => ?_)
                        · have h := (if_pos b103).symm.trans h
                          refine go_step (fun _ => ev_run 1 (F' := (131, [some (.ref 0), some (.ref 1000002), some (.int v5), some (.int v13), some (.int y17.1), none], [.int (0 : Int32)])) rfl) ?_
                          cases h
                        · have h := (if_neg b103).symm.trans h
                          refine go_step (fun _ => ev_run 3 (F' := (109, [some (.ref 0), some (.ref 1000002), some (.int v5), some (.int v13), some (.int y17.1), none], [.int (1 : Int32), .int (4 : Int32), .ref 0])) rfl) ?_
                          rcases okx h with ⟨e93, y92, hy92, h⟩ | ⟨v94, y95, hy95, h⟩
                          · cases h
                          · skip
                            obtain ⟨H96, hCH96, eH96_12, fH96⟩ := C_X11_bits (S := S) (d := d + 2) (z := (zX y17.2.1 z)) (x1 := (4 : Int32)) (x2 := (1 : Int32)) ((fH90 0 rfl).trans ((fH84 0 rfl).trans ((fH78 0 rfl).trans ((fH24 0 rfl).trans ((fH18 0 rfl).trans ((fH15 0 rfl).trans ((fH7 0 rfl).trans u_0))))))) ((fH90 10 rfl).trans ((fH84 10 rfl).trans eH78_10)) ((fH90 11 rfl).trans ((fH84 11 rfl).trans eH78_11)) eH90_12 hy95
                            have G97 := xG_w G91 fH96 rfl rfl
                            refine go_step (F1 := (112, [some (.ref 0), some (.ref 1000002), some (.int v5), some (.int v13), some (.int y17.1), none], [.int v94])) (M1 := (H96, (zX y17.2.1 z))) (fun _ => ev_callV (x := (.invokevirtual 145, 3, 113, 10, 912, .null)) (as := [.int (4 : Int32), .int (1 : Int32)]) (rest := []) rfl rfl ((fH90 0 rfl).trans ((fH84 0 rfl).trans ((fH78 0 rfl).trans ((fH24 0 rfl).trans ((fH18 0 rfl).trans ((fH15 0 rfl).trans ((fH7 0 rfl).trans u_0))))))) hCH96 rfl) ?_
                            refine go_step (fun _ => ev_run 3 (F' := (115, [some (.ref 0), some (.ref 1000002), some (.int v5), some (.int v13), some (.int y17.1), none], [.int (1 : Int32), .int (0 : Int32), .ref 0, .int v94])) rfl) ?_
                            rcases okx h with ⟨e99, y98, hy98, h⟩ | ⟨v100, y101, hy101, h⟩
                            · cases h
                            · skip
                              obtain ⟨H102, hCH102, eH102_12, fH102⟩ := C_X11_bits (S := S) (d := d + 2) (z := (zX y17.2.1 z)) (x1 := (0 : Int32)) (x2 := (1 : Int32)) ((fH96 0 rfl).trans ((fH90 0 rfl).trans ((fH84 0 rfl).trans ((fH78 0 rfl).trans ((fH24 0 rfl).trans ((fH18 0 rfl).trans ((fH15 0 rfl).trans ((fH7 0 rfl).trans u_0)))))))) ((fH96 10 rfl).trans ((fH90 10 rfl).trans ((fH84 10 rfl).trans eH78_10))) ((fH96 11 rfl).trans ((fH90 11 rfl).trans ((fH84 11 rfl).trans eH78_11))) eH96_12 hy101
                              have G103 := xG_w G97 fH102 rfl rfl
                              refine go_step (F1 := (118, [some (.ref 0), some (.ref 1000002), some (.int v5), some (.int v13), some (.int y17.1), none], [.int v100, .int v94])) (M1 := (H102, (zX y17.2.1 z))) (fun _ => ev_callV (x := (.invokevirtual 145, 3, 113, 10, 912, .null)) (as := [.int (0 : Int32), .int (1 : Int32)]) (rest := [.int v94]) rfl rfl ((fH96 0 rfl).trans ((fH90 0 rfl).trans ((fH84 0 rfl).trans ((fH78 0 rfl).trans ((fH24 0 rfl).trans ((fH18 0 rfl).trans ((fH15 0 rfl).trans ((fH7 0 rfl).trans u_0)))))))) hCH102 rfl) ?_
                              refine go_icmp rfl (fun (b118 : ¬ v94 = v100) => ?_) (fun (b118 : ¬ (¬ v94 = v100)) => ?_)
                              · have h := (if_pos b118).symm.trans h
                                refine go_step (fun _ => ev_run 1 (F' := (131, [some (.ref 0), some (.ref 1000002), some (.int v5), some (.int v13), some (.int y17.1), none], [.int (0 : Int32)])) rfl) ?_
                                cases h
                              · have h := (if_neg b118).symm.trans h
                                refine go_step (fun _ => ev_run 3 (F' := (124, [some (.ref 0), some (.ref 1000002), some (.int v5), some (.int v13), some (.int y17.1), none], [.int (2 : Int32), .int (4 : Int32), .ref 0])) rfl) ?_
                                rcases okx h with ⟨e105, y104, hy104, h⟩ | ⟨v106, y107, hy107, h⟩
                                · cases h
                                · skip
                                  obtain ⟨H108, hCH108, eH108_12, fH108⟩ := C_X11_bits (S := S) (d := d + 2) (z := (zX y17.2.1 z)) (x1 := (4 : Int32)) (x2 := (2 : Int32)) ((fH102 0 rfl).trans ((fH96 0 rfl).trans ((fH90 0 rfl).trans ((fH84 0 rfl).trans ((fH78 0 rfl).trans ((fH24 0 rfl).trans ((fH18 0 rfl).trans ((fH15 0 rfl).trans ((fH7 0 rfl).trans u_0))))))))) ((fH102 10 rfl).trans ((fH96 10 rfl).trans ((fH90 10 rfl).trans ((fH84 10 rfl).trans eH78_10)))) ((fH102 11 rfl).trans ((fH96 11 rfl).trans ((fH90 11 rfl).trans ((fH84 11 rfl).trans eH78_11)))) eH102_12 hy107
                                  have G109 := xG_w G103 fH108 rfl rfl
                                  refine go_step (F1 := (127, [some (.ref 0), some (.ref 1000002), some (.int v5), some (.int v13), some (.int y17.1), none], [.int v106])) (M1 := (H108, (zX y17.2.1 z))) (fun _ => ev_callV (x := (.invokevirtual 145, 3, 113, 10, 912, .null)) (as := [.int (4 : Int32), .int (2 : Int32)]) (rest := []) rfl rfl ((fH102 0 rfl).trans ((fH96 0 rfl).trans ((fH90 0 rfl).trans ((fH84 0 rfl).trans ((fH78 0 rfl).trans ((fH24 0 rfl).trans ((fH18 0 rfl).trans ((fH15 0 rfl).trans ((fH7 0 rfl).trans u_0))))))))) hCH108 rfl) ?_
                                  refine go_if rfl (fun (b127 : v106 = (0 : Int32)) => ?_) (fun (b127 : ¬ (v106 = (0 : Int32))) => ?_)
                                  · have h := (if_pos b127).symm.trans h
                                    refine go_step (fun _ => ev_run 4 (F' := (136, [some (.ref 0), some (.ref 1000002), some (.int v5), some (.int v13), some (.int y17.1), none], [.int (1 : Int32), .int (0 : Int32), .int (5 : Int32), .ref 0])) rfl) ?_
                                    rcases okx h with ⟨e111, y110, hy110, h⟩ | ⟨v112, y113, hy113, h⟩
                                    · cases h
                                    · skip
                                      obtain ⟨H114, hCH114, eH114_10, eH114_11, eH114_12, eH114_13, eH114_14, fH114⟩ := C_X11_common (S := S) (d := d + 1) (z := (zX y17.2.1 z)) (x1 := (5 : Int32)) (x2 := (0 : Int32)) (x3 := (1 : Int32)) ((fH108 0 rfl).trans ((fH102 0 rfl).trans ((fH96 0 rfl).trans ((fH90 0 rfl).trans ((fH84 0 rfl).trans ((fH78 0 rfl).trans ((fH24 0 rfl).trans ((fH18 0 rfl).trans ((fH15 0 rfl).trans ((fH7 0 rfl).trans u_0)))))))))) ((fH108 10 rfl).trans ((fH102 10 rfl).trans ((fH96 10 rfl).trans ((fH90 10 rfl).trans ((fH84 10 rfl).trans eH78_10))))) ((fH108 11 rfl).trans ((fH102 11 rfl).trans ((fH96 11 rfl).trans ((fH90 11 rfl).trans ((fH84 11 rfl).trans eH78_11))))) eH108_12 ((fH108 13 rfl).trans ((fH102 13 rfl).trans ((fH96 13 rfl).trans ((fH90 13 rfl).trans ((fH84 13 rfl).trans eH78_13))))) ((fH108 14 rfl).trans ((fH102 14 rfl).trans ((fH96 14 rfl).trans ((fH90 14 rfl).trans ((fH84 14 rfl).trans eH78_14))))) hy113
                                      have G115 := xG_w G109 fH114 rfl rfl
                                      refine go_step (F1 := (139, [some (.ref 0), some (.ref 1000002), some (.int v5), some (.int v13), some (.int y17.1), none], [.int v112])) (M1 := (H114, (zX y17.2.1 z))) (fun _ => ev_callV (x := (.invokevirtual 158, 3, 116, 10, 995, .null)) (as := [.int (5 : Int32), .int (0 : Int32), .int (1 : Int32)]) (rest := []) rfl rfl ((fH108 0 rfl).trans ((fH102 0 rfl).trans ((fH96 0 rfl).trans ((fH90 0 rfl).trans ((fH84 0 rfl).trans ((fH78 0 rfl).trans ((fH24 0 rfl).trans ((fH18 0 rfl).trans ((fH15 0 rfl).trans ((fH7 0 rfl).trans u_0)))))))))) hCH114 rfl) ?_
                                      refine go_step (fun _ => ev_run 2 (F' := (143, [some (.ref 0), some (.ref 1000002), some (.int v5), some (.int v13), some (.int y17.1), some (.int v112)], [.int v112])) rfl) ?_
                                      refine go_if rfl (fun (b143 : v112 < (0 : Int32)) => ?_) (fun (b143 : ¬ (v112 < (0 : Int32))) => ?_)
                                      · have h := (if_pos b143).symm.trans h
                                        refine go_step (fun _ => ev_run 1 (F' := (179, [some (.ref 0), some (.ref 1000002), some (.int v5), some (.int v13), some (.int y17.1), some (.int v112)], [.int (0 : Int32)])) rfl) ?_
                                        cases h
                                      · have h := (if_neg b143).symm.trans h
                                        refine go_step (fun _ => ev_run 5 (F' := (153, [some (.ref 0), some (.ref 1000002), some (.int v5), some (.int v13), some (.int y17.1), some (.int v112)], [.int (5 : Int32), .int (0 : Int32), .int (7 : Int32), .int (6 : Int32), .ref 0])) rfl) ?_
                                        obtain ⟨y116, hy116, h⟩ := okb h
                                        obtain ⟨H117, hCH117, eH117_10, eH117_11, eH117_12, eH117_13, eH117_14, fH117⟩ := C_L_divide (S := S) (d := d) (z := (zX y17.2.1 z)) (x1 := (6 : Int32)) (x2 := (7 : Int32)) (x3 := (0 : Int32)) (x4 := (5 : Int32)) eH114_10 eH114_11 eH114_12 eH114_13 eH114_14 ((fH114 0 rfl).trans ((fH108 0 rfl).trans ((fH102 0 rfl).trans ((fH96 0 rfl).trans ((fH90 0 rfl).trans ((fH84 0 rfl).trans ((fH78 0 rfl).trans ((fH24 0 rfl).trans ((fH18 0 rfl).trans ((fH15 0 rfl).trans ((fH7 0 rfl).trans u_0))))))))))) hy116
                                        have G118 := xG_zw (v := y116.2.1) G115 fH117 rfl rfl
                                        refine go_step (F1 := (156, [some (.ref 0), some (.ref 1000002), some (.int v5), some (.int v13), some (.int y17.1), some (.int v112)], [.int y116.1])) (M1 := (H117, (zX y116.2.1 (zX y17.2.1 z)))) (fun _ => ev_call (x := (.invokestatic 142, 3, 166, 11, 903, .null)) (as := [.ref 0, .int (6 : Int32), .int (7 : Int32), .int (0 : Int32), .int (5 : Int32)]) (rest := []) rfl rfl hCH117 rfl) ?_
                                        refine go_step (fun _ => ev_run 1 (F' := (157, [some (.ref 0), some (.ref 1000002), some (.int v5), some (.int v13), some (.int y17.1), some (.int v112)], [.int (-1 : Int32), .int y116.1])) rfl) ?_
                                        refine go_icmp rfl (fun (b157 : ¬ y116.1 = (-1 : Int32)) => ?_) (fun (b157 : ¬ (¬ y116.1 = (-1 : Int32))) => ?_)
                                        · have h := (if_pos b157).symm.trans h
                                          refine go_step (fun _ => ev_run 1 (F' := (179, [some (.ref 0), some (.ref 1000002), some (.int v5), some (.int v13), some (.int y17.1), some (.int v112)], [.int (0 : Int32)])) rfl) ?_
                                          cases h
                                        · have h := (if_neg b157).symm.trans h
                                          refine go_step (fun _ => ev_run 5 (F' := (167, [some (.ref 0), some (.ref 1000002), some (.int v5), some (.int v13), some (.int y17.1), some (.int v112)], [.int (5 : Int32), .int (1 : Int32), .int (7 : Int32), .int (6 : Int32), .ref 0])) rfl) ?_
                                          obtain ⟨y119, hy119, h⟩ := okb h
                                          obtain ⟨H120, hCH120, eH120_10, eH120_11, eH120_12, eH120_13, eH120_14, fH120⟩ := C_L_divide (S := S) (d := d) (z := (zX y116.2.1 (zX y17.2.1 z))) (x1 := (6 : Int32)) (x2 := (7 : Int32)) (x3 := (1 : Int32)) (x4 := (5 : Int32)) eH117_10 eH117_11 eH117_12 eH117_13 eH117_14 ((fH117 0 rfl).trans ((fH114 0 rfl).trans ((fH108 0 rfl).trans ((fH102 0 rfl).trans ((fH96 0 rfl).trans ((fH90 0 rfl).trans ((fH84 0 rfl).trans ((fH78 0 rfl).trans ((fH24 0 rfl).trans ((fH18 0 rfl).trans ((fH15 0 rfl).trans ((fH7 0 rfl).trans u_0)))))))))))) hy119
                                          have G121 := xG_zw (v := y119.2.1) G118 fH120 rfl rfl
                                          refine go_step (F1 := (170, [some (.ref 0), some (.ref 1000002), some (.int v5), some (.int v13), some (.int y17.1), some (.int v112)], [.int y119.1])) (M1 := (H120, (zX y119.2.1 (zX y116.2.1 (zX y17.2.1 z))))) (fun _ => ev_call (x := (.invokestatic 142, 3, 166, 11, 903, .null)) (as := [.ref 0, .int (6 : Int32), .int (7 : Int32), .int (1 : Int32), .int (5 : Int32)]) (rest := []) rfl rfl hCH120 rfl) ?_
                                          refine go_step (fun _ => ev_run 1 (F' := (171, [some (.ref 0), some (.ref 1000002), some (.int v5), some (.int v13), some (.int y17.1), some (.int v112)], [.int (-1 : Int32), .int y119.1])) rfl) ?_
                                          refine go_icmp rfl (fun (b171 : ¬ y119.1 = (-1 : Int32)) => ?_) (fun (b171 : ¬ (¬ y119.1 = (-1 : Int32))) => ?_)
                                          · have h := (if_pos b171).symm.trans h
                                            refine go_step (fun _ => ev_run 1 (F' := (179, [some (.ref 0), some (.ref 1000002), some (.int v5), some (.int v13), some (.int y17.1), some (.int v112)], [.int (0 : Int32)])) rfl) ?_
                                            cases h
                                          · have h := (if_neg b171).symm.trans h
                                            refine go_step (fun _ => ev_run 2 (F' := (179, [some (.ref 0), some (.ref 1000002), some (.int v5), some (.int v13), some (.int y17.1), some (.int v112)], [.int (1 : Int32)])) rfl) ?_
                                            cases h
                                            exact Or.inr ⟨_, ev_ret rfl rfl rfl rfl, (H120, (zX y119.2.1 (zX y116.2.1 (zX y17.2.1 z)))), rfl, eH120_10, eH120_11, eH120_14, eH120_12, eH120_13, xG_le G121 (by decide)⟩
                                  · have h := (if_neg b127).symm.trans h
                                    refine go_step (fun _ => ev_run 1 (F' := (131, [some (.ref 0), some (.ref 1000002), some (.int v5), some (.int v13), some (.int y17.1), none], [.int (0 : Int32)])) rfl) ?_
                                    cases h
                  · have h := (if_neg b86).symm.trans h
                    refine go_step (fun _ => ev_run 1 (F' := (90, [some (.ref 0), some (.ref 1000002), some (.int v5), some (.int v13), some (.int y17.1), none], [.int (0 : Int32)])) rfl) ?_
                    cases h
  obtain ⟨_, hE, M', rfl, hrest⟩ := go_end G
  exact ⟨M', hE, hrest⟩

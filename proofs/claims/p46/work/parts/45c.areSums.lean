/-! The law: areSums. Written by a program (wip/p46/dec). -/
def q_L_areSums_L2 (S : Nat × (Nat → Int32)) (c48_1 : Int32) (c48_2 : Int32) (c48_3 : Int32) (c48_4 : Int64) (c48_5 : Int64) (c48_6 : Int64) (c1_1 : Int32) (a2 : Nat → Int32) (a49 : Nat → Int32) (c8_0 : Int32) (c8_1 : Int32) (c8_2 : Int32) (c8_3 : Int32) (c8_4 : Int32) (c8_5 : Int32) : Nat → Int32 → Option Int32
  | 0, _ => none
  | n + 1, l3 => (if (4 : Int32) ≤ l3 then (some l3) else ((q_L_some S ((90 : Int32) + l3) (c48_1 + (1 : Int32))).bind (fun y1 => ((q_L_some S ((94 : Int32) + l3) ((c48_1 - y1) + (1 : Int32))).bind (fun y2 => (xbnd (q_X11_librarySum y1 (y1 + y2) c1_1 a2) (fun e4 y3 => none) (fun v5 y6 => ((q_L_sumOf y1 (y1 + y2) (0 : Int32) (1 : Int32) c48_2 c48_3 c48_4 c48_5 c48_6 a49).bind (fun y7 => (if ¬ (lg_cmp v5 y7) = (0 : Int32) then none else (xbnd (q_X11_sum y1 (y1 + y2) c1_1 c8_0 c8_1 c8_2 c8_3 c8_4 c8_5 a2) (fun e12 y11 => none) (fun v13 y14 => ((q_L_sumOf y1 (y1 + y2) (0 : Int32) (0 : Int32) c48_2 c48_3 c48_4 c48_5 c48_6 a49).bind (fun y15 => (if (lg_cmp v13 y15) = (0 : Int32) then (q_L_areSums_L2 S c48_1 c48_2 c48_3 c48_4 c48_5 c48_6 c1_1 a2 a49 c8_0 c8_1 c8_2 c8_3 c8_4 c8_5 n (l3 + (1 : Int32))) else none)))))))))))))))
def q_L_areSums_L112 (x3 : Int64) (c48_1 : Int32) (c1_1 : Int32) (a2 : Nat → Int32) (c8_0 : Int32) (c8_1 : Int32) (c8_2 : Int32) (c8_3 : Int32) (c8_4 : Int32) (c8_5 : Int32) : Nat → Int32 → Option Int32
  | 0, _ => none
  | n + 1, l5 => (if c48_1 < l5 then (some l5) else (xbnd (q_X11_joined l5 c1_1 c8_0 c8_1 c8_2 c8_3 c8_4 c8_5 a2) (fun e2 y1 => none) (fun v3 y4 => (if (lg_cmp v3 x3) = (0 : Int32) then (q_L_areSums_L112 x3 c48_1 c1_1 a2 c8_0 c8_1 c8_2 c8_3 c8_4 c8_5 n (l5 + (1 : Int32))) else none))))
def q_L_areSums (S : Nat × (Nat → Int32)) (c48_1 : Int32) (c48_2 : Int32) (c48_3 : Int32) (c48_4 : Int64) (c48_5 : Int64) (c48_6 : Int64) (c1_1 : Int32) (a2 : Nat → Int32) (a49 : Nat → Int32) (c8_0 : Int32) (c8_1 : Int32) (c8_2 : Int32) (c8_3 : Int32) (c8_4 : Int32) (c8_5 : Int32) : Option (Int32 × (Nat → Int32)) := ((q_L_areSums_L2 S c48_1 c48_2 c48_3 c48_4 c48_5 c48_6 c1_1 a2 a49 c8_0 c8_1 c8_2 c8_3 c8_4 c8_5 5 (0 : Int32)).bind (fun y1 => ((q_L_sumOf (0 : Int32) c48_1 (0 : Int32) (0 : Int32) c48_2 c48_3 c48_4 c48_5 c48_6 a49).bind (fun y6 => ((q_L_areSums_L112 y6 c48_1 c1_1 a2 c8_0 c8_1 c8_2 c8_3 c8_4 c8_5 10000 (0 : Int32)).bind (fun y10 => ((q_L_some S (98 : Int32) c48_1).bind (fun y15 => ((q_L_some S (99 : Int32) (256 : Int32)).bind (fun y16 => (if xin y15 64 = true then (if xin y15 64 = true then (xbnd (q_X11_changed y15 y16 c1_1 c8_0 c8_1 c8_2 c8_3 c8_4 c8_5 a2) (fun e20 y19 => none) (fun v21 y22 => ((q_L_sumOf (0 : Int32) c48_1 (0 : Int32) (0 : Int32) c48_2 c48_3 c48_4 c48_5 c48_6 (upd a49 y15.toNatClampNeg y16)).bind (fun y23 => (if xin y15 64 = true then ((q_L_some S (100 : Int32) (9 : Int32)).bind (fun y29 => (if (if ¬ (lg_cmp v21 y23) = (0 : Int32) then (0 : Int32) else (1 : Int32)) = (0 : Int32) then none else (xbnd (q_X11_zeros y29 c1_1 c8_0 c8_1 c8_2 c8_3 c8_4 c8_5 a2) (fun e31 y30 => none) (fun v32 y33 => ((q_L_sumOf (0 : Int32) c48_1 y29 (0 : Int32) c48_2 c48_3 c48_4 c48_5 c48_6 (upd (upd a49 y15.toNatClampNeg y16) y15.toNatClampNeg (a49 y15.toNatClampNeg))).bind (fun y34 => (if ¬ (lg_cmp v32 y34) = (0 : Int32) then none else (xbnd (q_X11_sum (0 : Int32) c48_1 c1_1 c8_0 c8_1 c8_2 c8_3 c8_4 c8_5 a2) (fun e39 y38 => none) (fun v40 y41 => (if ¬ (lg_cmp v40 y6) = (0 : Int32) then none else (some ((1 : Int32), (upd (upd a49 y15.toNatClampNeg y16) y15.toNatClampNeg (a49 y15.toNatClampNeg))))))))))))))) else none))))) else none) else none)))))))))))
theorem L_L_areSums_L2 {S : Nat × (Nat → Int32)} {d : Nat} {c48_1 : Int32} {c48_2 : Int32} {c48_3 : Int32} {c48_4 : Int64} {c48_5 : Int64} {c48_6 : Int64} {c1_1 : Int32} {a2 : Nat → Int32} {a49 : Nat → Int32} {c8_0 : Int32} {c8_1 : Int32} {c8_2 : Int32} {c8_3 : Int32} {c8_4 : Int32} {c8_5 : Int32} : ∀ (n : Nat) (l3 : Int32) (H : List xE) (z : Bool × Nat × Nat), xIn (H, z) → z.2.1 + n * 2 ≤ 1000000 → H[48]? = some (.inr (11, [.ref 49, .int c48_1, .int c48_2, .int c48_3, .long c48_4, .long c48_5, .long c48_6])) → H[1]? = some (.inr (4, [.ref 2, .int c1_1])) → H[2]? = some (.inl (0, 64, .inl a2)) → H[0]? = some (oO) → H[49]? = some (.inl (0, 64, .inl a49)) → H[8]? = some (.inr (1, [.int c8_0, .int c8_1, .int c8_2, .int c8_3, .int c8_4, .int c8_5])) → ∀ x, q_L_areSums_L2 S c48_1 c48_2 c48_3 c48_4 c48_5 c48_6 c1_1 a2 a49 c8_0 c8_1 c8_2 c8_3 c8_4 c8_5 n l3 = some x → Go S (d + 6) 169 (2, [some (.ref 48), some (.ref 0), some (.ref 1000002), some (.int l3), none, none, none, none, none, none], []) (H, z) (fun F' M' => (F' = (97, [some (.ref 48), some (.ref 0), some (.ref 1000002), none, none, none, none, none, none, none], [])) ∧ xG (n * 2) [] (H, z) M') (fun _ => ∃ M' : xM, False ∧ xG (n * 2) [] (H, z) M') := by
  intro n
  induction n with
  | zero =>
    intro l3 H z hi hz u_48 u_1 u_2 u_0 u_49 u_8 x h
    unfold q_L_areSums_L2 at h
    cases h
  | succ n ih =>
    intro l3 H z hi hz u_48 u_1 u_2 u_0 u_49 u_8 x h
    have hz1 : z.2.1 + 2 ≤ 1000000 := by omega
    have G0 : xG 0 [] (H, z) (H, z) := xG_refl hi
    unfold q_L_areSums_L2 at h
    refine go_step (fun _ => ev_run 2 (F' := (4, [some (.ref 48), some (.ref 0), some (.ref 1000002), some (.int l3), none, none, none, none, none, none], [.int (4 : Int32), .int l3])) rfl) ?_
    refine go_icmp rfl (fun (b4 : (4 : Int32) ≤ l3) => ?_) (fun (b4 : ¬ ((4 : Int32) ≤ l3)) => ?_)
    · have h := (if_pos b4).symm.trans h
      refine go_step (fun _ => ev_forget (L' := [some (.ref 48), some (.ref 0), some (.ref 1000002), none, none, none, none, none, none, none]) (show xleP _ [some (.ref 48), some (.ref 0), some (.ref 1000002), some (.int l3), none, none, none, none, none, none] from ⟨rfl, ⟨rfl, ⟨rfl, trivial⟩⟩⟩) rfl) ?_
      cases h
      exact Or.inl ⟨_, (H, z), fun r hr => hr, rfl, xG_ex G0 (by decide)⟩
    · have h := (if_neg b4).symm.trans h
      refine go_step (fun _ => ev_run 5 (F' := (13, [some (.ref 48), some (.ref 0), some (.ref 1000002), some (.int l3), none, none, none, none, none, none], [.ref 48, .int ((90 : Int32) + l3), .ref 1000002])) rfl) ?_
      refine go_step (fun _ => ev_getf rfl u_48 rfl) ?_
      refine go_step (fun _ => ev_run 2 (F' := (18, [some (.ref 48), some (.ref 0), some (.ref 1000002), some (.int l3), none, none, none, none, none, none], [.int (c48_1 + (1 : Int32)), .int ((90 : Int32) + l3), .ref 1000002])) rfl) ?_
      obtain ⟨y1, hy1, h⟩ := okb h
      refine go_step (F1 := (21, [some (.ref 48), some (.ref 0), some (.ref 1000002), some (.int l3), none, none, none, none, none, none], [.int y1])) (M1 := (H, z)) (fun _ => ev_call (x := (.invokestatic 89, 3, 160, 11, 659, .null)) (as := [.ref 1000002, .int ((90 : Int32) + l3), .int (c48_1 + (1 : Int32))]) (rest := []) rfl rfl (C_L_some (S := S) (d := d + 3) (z := z) (x1 := ((90 : Int32) + l3)) (x2 := (c48_1 + (1 : Int32))) (xG_ro G0 hz1 (by decide) (by decide)) hy1) rfl) ?_
      refine go_step (fun _ => ev_run 7 (F' := (31, [some (.ref 48), some (.ref 0), some (.ref 1000002), some (.int l3), some (.int y1), none, none, none, none, none], [.ref 48, .int ((94 : Int32) + l3), .ref 1000002, .int y1])) rfl) ?_
      refine go_step (fun _ => ev_getf rfl u_48 rfl) ?_
      refine go_step (fun _ => ev_run 4 (F' := (39, [some (.ref 48), some (.ref 0), some (.ref 1000002), some (.int l3), some (.int y1), none, none, none, none, none], [.int ((c48_1 - y1) + (1 : Int32)), .int ((94 : Int32) + l3), .ref 1000002, .int y1])) rfl) ?_
      obtain ⟨y2, hy2, h⟩ := okb h
      refine go_step (F1 := (42, [some (.ref 48), some (.ref 0), some (.ref 1000002), some (.int l3), some (.int y1), none, none, none, none, none], [.int y2, .int y1])) (M1 := (H, z)) (fun _ => ev_call (x := (.invokestatic 89, 3, 160, 11, 659, .null)) (as := [.ref 1000002, .int ((94 : Int32) + l3), .int ((c48_1 - y1) + (1 : Int32))]) (rest := [.int y1]) rfl rfl (C_L_some (S := S) (d := d + 3) (z := z) (x1 := ((94 : Int32) + l3)) (x2 := ((c48_1 - y1) + (1 : Int32))) (xG_ro G0 hz1 (by decide) (by decide)) hy2) rfl) ?_
      refine go_step (fun _ => ev_run 5 (F' := (50, [some (.ref 48), some (.ref 0), some (.ref 1000002), some (.int l3), some (.int y1), some (.int (y1 + y2)), none, none, none, none], [.int (y1 + y2), .int y1, .ref 0])) rfl) ?_
      rcases okx h with ⟨e4, y3, hy3, h⟩ | ⟨v5, y6, hy6, h⟩
      · cases h
      · skip
        refine go_step (F1 := (53, [some (.ref 48), some (.ref 0), some (.ref 1000002), some (.int l3), some (.int y1), some (.int (y1 + y2)), none, none, none, none], [.long v5])) (M1 := (H, z)) (fun _ => ev_callV (x := (.invokevirtual 93, 3, 104, 10, 449, .null)) (as := [.int y1, .int (y1 + y2)]) (rest := []) rfl rfl u_0 (C_X11_librarySum (S := S) (d := d + 2) (z := z) (x1 := y1) (x2 := (y1 + y2)) u_1 u_0 u_2 hy6) rfl) ?_
        refine go_step (fun _ => ev_run 5 (F' := (60, [some (.ref 48), some (.ref 0), some (.ref 1000002), some (.int l3), some (.int y1), some (.int (y1 + y2)), none, none, none, none], [.int (1 : Int32), .int (0 : Int32), .int (y1 + y2), .int y1, .ref 48, .long v5])) rfl) ?_
        obtain ⟨y7, hy7, h⟩ := okb h
        obtain ⟨⟨H8, z9⟩, hCH8, gH8⟩ := C_L_sumOf (S := S) (d := d + 4) (z := z) (x1 := y1) (x2 := (y1 + y2)) (x3 := (0 : Int32)) (x4 := (1 : Int32)) G0.1 (xG_hz G0 hz1 (by decide)) u_48 u_49 hy7
        have G10 := xG_t G0 gH8 rfl
        refine go_step (F1 := (63, [some (.ref 48), some (.ref 0), some (.ref 1000002), some (.int l3), some (.int y1), some (.int (y1 + y2)), none, none, none, none], [.long y7, .long v5])) (M1 := (H8, z9)) (fun _ => ev_callV (x := (.invokevirtual 97, 3, 162, 11, 666, .null)) (as := [.int y1, .int (y1 + y2), .int (0 : Int32), .int (1 : Int32)]) (rest := [.long v5]) rfl rfl u_48 hCH8 rfl) ?_
        refine go_step (fun _ => ev_run 1 (F' := (64, [some (.ref 48), some (.ref 0), some (.ref 1000002), some (.int l3), some (.int y1), some (.int (y1 + y2)), none, none, none, none], [.int (lg_cmp v5 y7)])) rfl) ?_
        refine go_if rfl (fun (b64 : ¬ (lg_cmp v5 y7) = (0 : Int32)) => ?_) (fun (b64 : ¬ (¬ (lg_cmp v5 y7) = (0 : Int32))) => ?_)
        · have h := (if_pos b64).symm.trans h
          refine go_step (fun _ => ev_run 1 (F' := (90, [some (.ref 48), some (.ref 0), some (.ref 1000002), some (.int l3), some (.int y1), some (.int (y1 + y2)), none, none, none, none], [.int (0 : Int32)])) rfl) ?_
          cases h
        · have h := (if_neg b64).symm.trans h
          refine go_step (fun _ => ev_run 3 (F' := (72, [some (.ref 48), some (.ref 0), some (.ref 1000002), some (.int l3), some (.int y1), some (.int (y1 + y2)), none, none, none, none], [.int (y1 + y2), .int y1, .ref 0])) rfl) ?_
          rcases okx h with ⟨e12, y11, hy11, h⟩ | ⟨v13, y14, hy14, h⟩
          · cases h
          · skip
            refine go_step (F1 := (75, [some (.ref 48), some (.ref 0), some (.ref 1000002), some (.int l3), some (.int y1), some (.int (y1 + y2)), none, none, none, none], [.long v13])) (M1 := (H8, z9)) (fun _ => ev_callV (x := (.invokevirtual 101, 3, 106, 10, 507, .null)) (as := [.int y1, .int (y1 + y2)]) (rest := []) rfl rfl (xG_keep gH8 rfl u_0) (C_X11_sum (S := S) (d := d + 2) (z := z9) (x1 := y1) (x2 := (y1 + y2)) (xG_keep gH8 rfl u_1) (xG_keep gH8 rfl u_0) (xG_keep gH8 rfl u_8) (xG_keep gH8 rfl u_2) hy14) rfl) ?_
            refine go_step (fun _ => ev_run 5 (F' := (82, [some (.ref 48), some (.ref 0), some (.ref 1000002), some (.int l3), some (.int y1), some (.int (y1 + y2)), none, none, none, none], [.int (0 : Int32), .int (0 : Int32), .int (y1 + y2), .int y1, .ref 48, .long v13])) rfl) ?_
            obtain ⟨y15, hy15, h⟩ := okb h
            obtain ⟨⟨H16, z17⟩, hCH16, gH16⟩ := C_L_sumOf (S := S) (d := d + 4) (z := z9) (x1 := y1) (x2 := (y1 + y2)) (x3 := (0 : Int32)) (x4 := (0 : Int32)) G10.1 (xG_hz G10 hz1 (by decide)) (xG_keep gH8 rfl u_48) (xG_keep gH8 rfl u_49) hy15
            have G18 := xG_t G10 gH16 rfl
            refine go_step (F1 := (85, [some (.ref 48), some (.ref 0), some (.ref 1000002), some (.int l3), some (.int y1), some (.int (y1 + y2)), none, none, none, none], [.long y15, .long v13])) (M1 := (H16, z17)) (fun _ => ev_callV (x := (.invokevirtual 97, 3, 162, 11, 666, .null)) (as := [.int y1, .int (y1 + y2), .int (0 : Int32), .int (0 : Int32)]) (rest := [.long v13]) rfl rfl (xG_keep gH8 rfl u_48) hCH16 rfl) ?_
            refine go_step (fun _ => ev_run 1 (F' := (86, [some (.ref 48), some (.ref 0), some (.ref 1000002), some (.int l3), some (.int y1), some (.int (y1 + y2)), none, none, none, none], [.int (lg_cmp v13 y15)])) rfl) ?_
            refine go_if rfl (fun (b86 : (lg_cmp v13 y15) = (0 : Int32)) => ?_) (fun (b86 : ¬ ((lg_cmp v13 y15) = (0 : Int32))) => ?_)
            · have h := (if_pos b86).symm.trans h
              refine go_step (fun _ => ev_run 2 (F' := (2, [some (.ref 48), some (.ref 0), some (.ref 1000002), some (.int (l3 + (1 : Int32))), some (.int y1), some (.int (y1 + y2)), none, none, none, none], [])) rfl) ?_
              refine go_step (fun _ => ev_forget (L' := [some (.ref 48), some (.ref 0), some (.ref 1000002), some (.int (l3 + (1 : Int32))), none, none, none, none, none, none]) (show xleP _ [some (.ref 48), some (.ref 0), some (.ref 1000002), some (.int (l3 + (1 : Int32))), some (.int y1), some (.int (y1 + y2)), none, none, none, none] from ⟨rfl, ⟨rfl, ⟨rfl, ⟨rfl, trivial⟩⟩⟩⟩) rfl) ?_
              exact go_loop (ih (l3 + (1 : Int32)) H16 z17 G18.1 (xG_hn G18 hz (by decide)) (xG_keep gH16 rfl (xG_keep gH8 rfl u_48)) (xG_keep gH16 rfl (xG_keep gH8 rfl u_1)) (xG_keep gH16 rfl (xG_keep gH8 rfl u_2)) (xG_keep gH16 rfl (xG_keep gH8 rfl u_0)) (xG_keep gH16 rfl (xG_keep gH8 rfl u_49)) (xG_keep gH16 rfl (xG_keep gH8 rfl u_8)) _ h) G18 (by decide)
            · have h := (if_neg b86).symm.trans h
              refine go_step (fun _ => ev_run 1 (F' := (90, [some (.ref 48), some (.ref 0), some (.ref 1000002), some (.int l3), some (.int y1), some (.int (y1 + y2)), none, none, none, none], [.int (0 : Int32)])) rfl) ?_
              cases h
theorem L_L_areSums_L112 {S : Nat × (Nat → Int32)} {d : Nat} {c48_2 : Int32} {c48_3 : Int32} {c48_4 : Int64} {c48_5 : Int64} {c48_6 : Int64} {a49 : Nat → Int32} {x3 : Int64} {c48_1 : Int32} {c1_1 : Int32} {a2 : Nat → Int32} {c8_0 : Int32} {c8_1 : Int32} {c8_2 : Int32} {c8_3 : Int32} {c8_4 : Int32} {c8_5 : Int32} : ∀ (n : Nat) (l5 : Int32) (H : List xE) (z : Bool × Nat × Nat), xIn (H, z) → z.2.1 + n * 0 ≤ 1000000 → H[48]? = some (.inr (11, [.ref 49, .int c48_1, .int c48_2, .int c48_3, .long c48_4, .long c48_5, .long c48_6])) → H[1]? = some (.inr (4, [.ref 2, .int c1_1])) → H[2]? = some (.inl (0, 64, .inl a2)) → H[0]? = some (oO) → H[49]? = some (.inl (0, 64, .inl a49)) → H[8]? = some (.inr (1, [.int c8_0, .int c8_1, .int c8_2, .int c8_3, .int c8_4, .int c8_5])) → ∀ x, q_L_areSums_L112 x3 c48_1 c1_1 a2 c8_0 c8_1 c8_2 c8_3 c8_4 c8_5 n l5 = some x → Go S (d + 6) 169 (112, [some (.ref 48), some (.ref 0), some (.ref 1000002), some (.long x3), none, some (.int l5), none, none, none, none], []) (H, z) (fun F' M' => (F' = (140, [some (.ref 48), some (.ref 0), some (.ref 1000002), some (.long x3), none, none, none, none, none, none], [])) ∧ xG (n * 0) [] (H, z) M') (fun _ => ∃ M' : xM, False ∧ xG (n * 0) [] (H, z) M') := by
  intro n
  induction n with
  | zero =>
    intro l5 H z hi hz u_48 u_1 u_2 u_0 u_49 u_8 x h
    unfold q_L_areSums_L112 at h
    cases h
  | succ n ih =>
    intro l5 H z hi hz u_48 u_1 u_2 u_0 u_49 u_8 x h
    have hz1 : z.2.1 + 0 ≤ 1000000 := by omega
    have G0 : xG 0 [] (H, z) (H, z) := xG_refl hi
    unfold q_L_areSums_L112 at h
    refine go_step (fun _ => ev_run 2 (F' := (115, [some (.ref 48), some (.ref 0), some (.ref 1000002), some (.long x3), none, some (.int l5), none, none, none, none], [.ref 48, .int l5])) rfl) ?_
    refine go_step (fun _ => ev_getf rfl u_48 rfl) ?_
    refine go_icmp rfl (fun (b118 : c48_1 < l5) => ?_) (fun (b118 : ¬ (c48_1 < l5)) => ?_)
    · have h := (if_pos b118).symm.trans h
      refine go_step (fun _ => ev_forget (L' := [some (.ref 48), some (.ref 0), some (.ref 1000002), some (.long x3), none, none, none, none, none, none]) (show xleP _ [some (.ref 48), some (.ref 0), some (.ref 1000002), some (.long x3), none, some (.int l5), none, none, none, none] from ⟨rfl, ⟨rfl, ⟨rfl, ⟨rfl, trivial⟩⟩⟩⟩) rfl) ?_
      cases h
      exact Or.inl ⟨_, (H, z), fun r hr => hr, rfl, xG_ex G0 (by decide)⟩
    · have h := (if_neg b118).symm.trans h
      refine go_step (fun _ => ev_run 2 (F' := (124, [some (.ref 48), some (.ref 0), some (.ref 1000002), some (.long x3), none, some (.int l5), none, none, none, none], [.int l5, .ref 0])) rfl) ?_
      rcases okx h with ⟨e2, y1, hy1, h⟩ | ⟨v3, y4, hy4, h⟩
      · cases h
      · skip
        refine go_step (F1 := (127, [some (.ref 48), some (.ref 0), some (.ref 1000002), some (.long x3), none, some (.int l5), none, none, none, none], [.long v3])) (M1 := (H, z)) (fun _ => ev_callV (x := (.invokevirtual 104, 3, 107, 10, 673, .null)) (as := [.int l5]) (rest := []) rfl rfl u_0 (C_X11_joined (S := S) (d := d) (z := z) (x1 := l5) u_1 u_0 u_8 u_2 hy4) rfl) ?_
        refine go_step (fun _ => ev_run 2 (F' := (129, [some (.ref 48), some (.ref 0), some (.ref 1000002), some (.long x3), none, some (.int l5), none, none, none, none], [.int (lg_cmp v3 x3)])) rfl) ?_
        refine go_if rfl (fun (b129 : (lg_cmp v3 x3) = (0 : Int32)) => ?_) (fun (b129 : ¬ ((lg_cmp v3 x3) = (0 : Int32))) => ?_)
        · have h := (if_pos b129).symm.trans h
          refine go_step (fun _ => ev_run 2 (F' := (112, [some (.ref 48), some (.ref 0), some (.ref 1000002), some (.long x3), none, some (.int (l5 + (1 : Int32))), none, none, none, none], [])) rfl) ?_
          exact go_loop (ih (l5 + (1 : Int32)) H z G0.1 (xG_hn G0 hz (by decide)) u_48 u_1 u_2 u_0 u_49 u_8 _ h) G0 (by decide)
        · have h := (if_neg b129).symm.trans h
          refine go_step (fun _ => ev_run 1 (F' := (133, [some (.ref 48), some (.ref 0), some (.ref 1000002), some (.long x3), none, some (.int l5), none, none, none, none], [.int (0 : Int32)])) rfl) ?_
          cases h
set_option maxHeartbeats 4000000 in
theorem C_L_areSums {S : Nat × (Nat → Int32)} {d : Nat} {H : List xE} {z : Bool × Nat × Nat} {c48_1 : Int32} {c48_2 : Int32} {c48_3 : Int32} {c48_4 : Int64} {c48_5 : Int64} {c48_6 : Int64} {c1_1 : Int32} {a2 : Nat → Int32} {a49 : Nat → Int32} {c8_0 : Int32} {c8_1 : Int32} {c8_2 : Int32} {c8_3 : Int32} {c8_4 : Int32} {c8_5 : Int32} (hi : xIn (H, z)) (hz : z.2.1 + 13 ≤ 1000000) (u_48 : H[48]? = some (.inr (11, [.ref 49, .int c48_1, .int c48_2, .int c48_3, .long c48_4, .long c48_5, .long c48_6]))) (u_1 : H[1]? = some (.inr (4, [.ref 2, .int c1_1]))) (u_2 : H[2]? = some (.inl (0, 64, .inl a2))) (u_0 : H[0]? = some (oO)) (u_49 : H[49]? = some (.inl (0, 64, .inl a49))) (u_8 : H[8]? = some (.inr (1, [.int c8_0, .int c8_1, .int c8_2, .int c8_3, .int c8_4, .int c8_5]))) {x : (Int32 × (Nat → Int32))} (h : q_L_areSums S c48_1 c48_2 c48_3 c48_4 c48_5 c48_6 c1_1 a2 a49 c8_0 c8_1 c8_2 c8_3 c8_4 c8_5 = some x) : ∃ M' : xM, Cm S (d + 6) 169 [.ref 48, .ref 0, .ref 1000002] (H, z) (.inr (some (.int x.1)), M') ∧ M'.1[49]? = some (.inl (0, 64, .inl x.2)) ∧ xG 13 [49] (H, z) M' := by
  have G : Go S (d + 6) 169 (0, [some (.ref 48), some (.ref 0), some (.ref 1000002), none, none, none, none, none, none, none], []) (H, z) (fun _ _ => False) (fun r => ∃ M' : xM, r = (.inr (some (.int x.1)), M') ∧ M'.1[49]? = some (.inl (0, 64, .inl x.2)) ∧ xG 13 [49] (H, z) M') := by
    have G0 : xG 0 [49] (H, z) (H, z) := xG_refl hi
    unfold q_L_areSums at h
    refine go_step (fun _ => ev_run 2 (F' := (2, [some (.ref 48), some (.ref 0), some (.ref 1000002), some (.int (0 : Int32)), none, none, none, none, none, none], [])) rfl) ?_
    obtain ⟨y1, hy1, h⟩ := okb h
    obtain ⟨_, ⟨H3, z4⟩, hr2, rfl, gH3⟩ := go_nrL (L_L_areSums_L2 (S := S) (d := d) 5 (0 : Int32) H z G0.1 (xG_hz G0 hz (by decide)) u_48 u_1 u_2 u_0 u_49 u_8 _ hy1)
    have G5 := xG_t G0 gH3 rfl
    refine go_step hr2 ?_
    refine go_step (fun _ => ev_run 3 (F' := (100, [some (.ref 48), some (.ref 0), some (.ref 1000002), none, none, none, none, none, none, none], [.ref 48, .int (0 : Int32), .ref 48])) rfl) ?_
    refine go_step (fun _ => ev_getf rfl (xG_keep gH3 rfl u_48) rfl) ?_
    refine go_step (fun _ => ev_run 2 (F' := (105, [some (.ref 48), some (.ref 0), some (.ref 1000002), none, none, none, none, none, none, none], [.int (0 : Int32), .int (0 : Int32), .int c48_1, .int (0 : Int32), .ref 48])) rfl) ?_
    obtain ⟨y6, hy6, h⟩ := okb h
    obtain ⟨⟨H7, z8⟩, hCH7, gH7⟩ := C_L_sumOf (S := S) (d := d + 4) (z := z4) (x1 := (0 : Int32)) (x2 := c48_1) (x3 := (0 : Int32)) (x4 := (0 : Int32)) G5.1 (xG_hz G5 hz (by decide)) (xG_keep gH3 rfl u_48) (xG_keep gH3 rfl u_49) hy6
    have G9 := xG_t G5 gH7 rfl
    refine go_step (F1 := (108, [some (.ref 48), some (.ref 0), some (.ref 1000002), none, none, none, none, none, none, none], [.long y6])) (M1 := (H7, z8)) (fun _ => ev_callV (x := (.invokevirtual 97, 3, 162, 11, 666, .null)) (as := [.int (0 : Int32), .int c48_1, .int (0 : Int32), .int (0 : Int32)]) (rest := []) rfl rfl (xG_keep gH3 rfl u_48) hCH7 rfl) ?_
    refine go_step (fun _ => ev_run 3 (F' := (112, [some (.ref 48), some (.ref 0), some (.ref 1000002), some (.long y6), none, some (.int (0 : Int32)), none, none, none, none], [])) rfl) ?_
    obtain ⟨y10, hy10, h⟩ := okb h
    obtain ⟨_, ⟨H12, z13⟩, hr11, rfl, gH12⟩ := go_nrL (L_L_areSums_L112 (S := S) (d := d) (x3 := y6) 10000 (0 : Int32) H7 z8 G9.1 (xG_hz G9 hz (by decide)) (xG_keep gH7 rfl (xG_keep gH3 rfl u_48)) (xG_keep gH7 rfl (xG_keep gH3 rfl u_1)) (xG_keep gH7 rfl (xG_keep gH3 rfl u_2)) (xG_keep gH7 rfl (xG_keep gH3 rfl u_0)) (xG_keep gH7 rfl (xG_keep gH3 rfl u_49)) (xG_keep gH7 rfl (xG_keep gH3 rfl u_8)) _ hy10)
    have G14 := xG_t G9 gH12 rfl
    refine go_step hr11 ?_
    refine go_step (fun _ => ev_run 3 (F' := (144, [some (.ref 48), some (.ref 0), some (.ref 1000002), some (.long y6), none, none, none, none, none, none], [.ref 48, .int (98 : Int32), .ref 1000002])) rfl) ?_
    refine go_step (fun _ => ev_getf rfl (xG_keep gH12 rfl (xG_keep gH7 rfl (xG_keep gH3 rfl u_48))) rfl) ?_
    obtain ⟨y15, hy15, h⟩ := okb h
    refine go_step (F1 := (150, [some (.ref 48), some (.ref 0), some (.ref 1000002), some (.long y6), none, none, none, none, none, none], [.int y15])) (M1 := (H12, z13)) (fun _ => ev_call (x := (.invokestatic 89, 3, 160, 11, 659, .null)) (as := [.ref 1000002, .int (98 : Int32), .int c48_1]) (rest := []) rfl rfl (C_L_some (S := S) (d := d + 3) (z := z13) (x1 := (98 : Int32)) (x2 := c48_1) (xG_ro G14 hz (by decide) (by decide)) hy15) rfl) ?_
    refine go_step (fun _ => ev_run 4 (F' := (158, [some (.ref 48), some (.ref 0), some (.ref 1000002), some (.long y6), none, some (.int y15), none, none, none, none], [.int (256 : Int32), .int (99 : Int32), .ref 1000002])) rfl) ?_
    obtain ⟨y16, hy16, h⟩ := okb h
    refine go_step (F1 := (161, [some (.ref 48), some (.ref 0), some (.ref 1000002), some (.long y6), none, some (.int y15), none, none, none, none], [.int y16])) (M1 := (H12, z13)) (fun _ => ev_call (x := (.invokestatic 89, 3, 160, 11, 659, .null)) (as := [.ref 1000002, .int (99 : Int32), .int (256 : Int32)]) (rest := []) rfl rfl (C_L_some (S := S) (d := d + 3) (z := z13) (x1 := (99 : Int32)) (x2 := (256 : Int32)) (xG_ro G14 hz (by decide) (by decide)) hy16) rfl) ?_
    refine go_step (fun _ => ev_run 2 (F' := (164, [some (.ref 48), some (.ref 0), some (.ref 1000002), some (.long y6), none, some (.int y15), some (.int y16), none, none, none], [.ref 48])) rfl) ?_
    refine go_step (fun _ => ev_getf rfl (xG_keep gH12 rfl (xG_keep gH7 rfl (xG_keep gH3 rfl u_48))) rfl) ?_
    refine go_step (fun _ => ev_run 1 (F' := (169, [some (.ref 48), some (.ref 0), some (.ref 1000002), some (.long y6), none, some (.int y15), some (.int y16), none, none, none], [.int y15, .ref 49])) rfl) ?_
    obtain ⟨g169, h⟩ := okg h
    refine go_step (fun _ => ev_iald rfl (xG_keep gH12 rfl (xG_keep gH7 rfl (xG_keep gH3 rfl u_49))) g169) ?_
    refine go_step (fun _ => ev_run 2 (F' := (173, [some (.ref 48), some (.ref 0), some (.ref 1000002), some (.long y6), none, some (.int y15), some (.int y16), some (.int (a49 y15.toNatClampNeg)), none, none], [.ref 48])) rfl) ?_
    refine go_step (fun _ => ev_getf rfl (xG_keep gH12 rfl (xG_keep gH7 rfl (xG_keep gH3 rfl u_48))) rfl) ?_
    refine go_step (fun _ => ev_run 2 (F' := (180, [some (.ref 48), some (.ref 0), some (.ref 1000002), some (.long y6), none, some (.int y15), some (.int y16), some (.int (a49 y15.toNatClampNeg)), none, none], [.int y16, .int y15, .ref 49])) rfl) ?_
    obtain ⟨g180, h⟩ := okg h
    refine go_iast rfl (xG_keep gH12 rfl (xG_keep gH7 rfl (xG_keep gH3 rfl u_49))) g180 (fun H17 (eH17 : H17[49]? = some (.inl (0, 64, .inl (upd a49 y15.toNatClampNeg y16)))) fH17 => ?_)
    have G18 := xG_w G14 fH17 rfl rfl
    refine go_step (fun _ => ev_run 3 (F' := (186, [some (.ref 48), some (.ref 0), some (.ref 1000002), some (.long y6), none, some (.int y15), some (.int y16), some (.int (a49 y15.toNatClampNeg)), none, none], [.int y16, .int y15, .ref 0])) rfl) ?_
    rcases okx h with ⟨e20, y19, hy19, h⟩ | ⟨v21, y22, hy22, h⟩
    · cases h
    · skip
      refine go_step (F1 := (189, [some (.ref 48), some (.ref 0), some (.ref 1000002), some (.long y6), none, some (.int y15), some (.int y16), some (.int (a49 y15.toNatClampNeg)), none, none], [.long v21])) (M1 := (H17, z13)) (fun _ => ev_callV (x := (.invokevirtual 108, 3, 108, 10, 682, .null)) (as := [.int y15, .int y16]) (rest := []) rfl rfl ((fH17 0 rfl).trans (xG_keep gH12 rfl (xG_keep gH7 rfl (xG_keep gH3 rfl u_0)))) (C_X11_changed (S := S) (d := d + 1) (z := z13) (x1 := y15) (x2 := y16) ((fH17 1 rfl).trans (xG_keep gH12 rfl (xG_keep gH7 rfl (xG_keep gH3 rfl u_1)))) ((fH17 0 rfl).trans (xG_keep gH12 rfl (xG_keep gH7 rfl (xG_keep gH3 rfl u_0)))) ((fH17 8 rfl).trans (xG_keep gH12 rfl (xG_keep gH7 rfl (xG_keep gH3 rfl u_8)))) ((fH17 2 rfl).trans (xG_keep gH12 rfl (xG_keep gH7 rfl (xG_keep gH3 rfl u_2)))) hy22) rfl) ?_
      refine go_step (fun _ => ev_run 3 (F' := (192, [some (.ref 48), some (.ref 0), some (.ref 1000002), some (.long y6), none, some (.int y15), some (.int y16), some (.int (a49 y15.toNatClampNeg)), none, none], [.ref 48, .int (0 : Int32), .ref 48, .long v21])) rfl) ?_
      refine go_step (fun _ => ev_getf rfl ((fH17 48 rfl).trans (xG_keep gH12 rfl (xG_keep gH7 rfl (xG_keep gH3 rfl u_48)))) rfl) ?_
      refine go_step (fun _ => ev_run 2 (F' := (197, [some (.ref 48), some (.ref 0), some (.ref 1000002), some (.long y6), none, some (.int y15), some (.int y16), some (.int (a49 y15.toNatClampNeg)), none, none], [.int (0 : Int32), .int (0 : Int32), .int c48_1, .int (0 : Int32), .ref 48, .long v21])) rfl) ?_
      obtain ⟨y23, hy23, h⟩ := okb h
      obtain ⟨⟨H24, z25⟩, hCH24, gH24⟩ := C_L_sumOf (S := S) (d := d + 4) (z := z13) (x1 := (0 : Int32)) (x2 := c48_1) (x3 := (0 : Int32)) (x4 := (0 : Int32)) G18.1 (xG_hz G18 hz (by decide)) ((fH17 48 rfl).trans (xG_keep gH12 rfl (xG_keep gH7 rfl (xG_keep gH3 rfl u_48)))) eH17 hy23
      have G26 := xG_t G18 gH24 rfl
      refine go_step (F1 := (200, [some (.ref 48), some (.ref 0), some (.ref 1000002), some (.long y6), none, some (.int y15), some (.int y16), some (.int (a49 y15.toNatClampNeg)), none, none], [.long y23, .long v21])) (M1 := (H24, z25)) (fun _ => ev_callV (x := (.invokevirtual 97, 3, 162, 11, 666, .null)) (as := [.int (0 : Int32), .int c48_1, .int (0 : Int32), .int (0 : Int32)]) (rest := [.long v21]) rfl rfl ((fH17 48 rfl).trans (xG_keep gH12 rfl (xG_keep gH7 rfl (xG_keep gH3 rfl u_48)))) hCH24 rfl) ?_
      refine go_step (fun _ => ev_run 1 (F' := (201, [some (.ref 48), some (.ref 0), some (.ref 1000002), some (.long y6), none, some (.int y15), some (.int y16), some (.int (a49 y15.toNatClampNeg)), none, none], [.int (lg_cmp v21 y23)])) rfl) ?_
      refine go_step (F1 := (209, [some (.ref 48), some (.ref 0), some (.ref 1000002), some (.long y6), none, some (.int y15), none, some (.int (a49 y15.toNatClampNeg)), none, none], [.int (if ¬ (lg_cmp v21 y23) = (0 : Int32) then (0 : Int32) else (1 : Int32))])) (M1 := (H24, z25)) (fun r K => ?_) ?_
      · skip
        refine ev_if rfl (fun (b201 : ¬ (lg_cmp v21 y23) = (0 : Int32)) => ?_) (fun (b201 : ¬ (¬ (lg_cmp v21 y23) = (0 : Int32))) => ?_)
        · skip
          refine ev_run 1 (F' := (209, [some (.ref 48), some (.ref 0), some (.ref 1000002), some (.long y6), none, some (.int y15), some (.int y16), some (.int (a49 y15.toNatClampNeg)), none, none], [.int (0 : Int32)])) rfl ?_
          refine ev_forget (L' := [some (.ref 48), some (.ref 0), some (.ref 1000002), some (.long y6), none, some (.int y15), none, some (.int (a49 y15.toNatClampNeg)), none, none]) (show xleP _ [some (.ref 48), some (.ref 0), some (.ref 1000002), some (.long y6), none, some (.int y15), some (.int y16), some (.int (a49 y15.toNatClampNeg)), none, none] from ⟨rfl, ⟨rfl, ⟨rfl, ⟨rfl, ⟨rfl, ⟨rfl, trivial⟩⟩⟩⟩⟩⟩) rfl ?_
          exact ev_cast (show ((209, [some (.ref 48), some (.ref 0), some (.ref 1000002), some (.long y6), none, some (.int y15), none, some (.int (a49 y15.toNatClampNeg)), none, none], [.int (0 : Int32)]) : xF) = (209, [some (.ref 48), some (.ref 0), some (.ref 1000002), some (.long y6), none, some (.int y15), none, some (.int (a49 y15.toNatClampNeg)), none, none], [.int (if ¬ (lg_cmp v21 y23) = (0 : Int32) then (0 : Int32) else (1 : Int32))]) by first | (simp only [if_pos b201]; done) | rfl) rfl K
        · skip
          refine ev_run 2 (F' := (209, [some (.ref 48), some (.ref 0), some (.ref 1000002), some (.long y6), none, some (.int y15), some (.int y16), some (.int (a49 y15.toNatClampNeg)), none, none], [.int (1 : Int32)])) rfl ?_
          refine ev_forget (L' := [some (.ref 48), some (.ref 0), some (.ref 1000002), some (.long y6), none, some (.int y15), none, some (.int (a49 y15.toNatClampNeg)), none, none]) (show xleP _ [some (.ref 48), some (.ref 0), some (.ref 1000002), some (.long y6), none, some (.int y15), some (.int y16), some (.int (a49 y15.toNatClampNeg)), none, none] from ⟨rfl, ⟨rfl, ⟨rfl, ⟨rfl, ⟨rfl, ⟨rfl, trivial⟩⟩⟩⟩⟩⟩) rfl ?_
          exact ev_cast (show ((209, [some (.ref 48), some (.ref 0), some (.ref 1000002), some (.long y6), none, some (.int y15), none, some (.int (a49 y15.toNatClampNeg)), none, none], [.int (1 : Int32)]) : xF) = (209, [some (.ref 48), some (.ref 0), some (.ref 1000002), some (.long y6), none, some (.int y15), none, some (.int (a49 y15.toNatClampNeg)), none, none], [.int (if ¬ (lg_cmp v21 y23) = (0 : Int32) then (0 : Int32) else (1 : Int32))]) by first | (simp only [if_neg b201]; done) | rfl) rfl K
      refine go_step (fun _ => ev_run 2 (F' := (212, [some (.ref 48), some (.ref 0), some (.ref 1000002), some (.long y6), none, some (.int y15), none, some (.int (a49 y15.toNatClampNeg)), some (.int (if ¬ (lg_cmp v21 y23) = (0 : Int32) then (0 : Int32) else (1 : Int32))), none], [.ref 48])) rfl) ?_
      refine go_step (fun _ => ev_getf rfl (xG_keep gH24 rfl ((fH17 48 rfl).trans (xG_keep gH12 rfl (xG_keep gH7 rfl (xG_keep gH3 rfl u_48))))) rfl) ?_
      refine go_step (fun _ => ev_run 2 (F' := (219, [some (.ref 48), some (.ref 0), some (.ref 1000002), some (.long y6), none, some (.int y15), none, some (.int (a49 y15.toNatClampNeg)), some (.int (if ¬ (lg_cmp v21 y23) = (0 : Int32) then (0 : Int32) else (1 : Int32))), none], [.int (a49 y15.toNatClampNeg), .int y15, .ref 49])) rfl) ?_
      obtain ⟨g219, h⟩ := okg h
      refine go_iast rfl (xG_keep gH24 rfl eH17) g219 (fun H27 (eH27 : H27[49]? = some (.inl (0, 64, .inl (upd (upd a49 y15.toNatClampNeg y16) y15.toNatClampNeg (a49 y15.toNatClampNeg))))) fH27 => ?_)
      have G28 := xG_w G26 fH27 rfl rfl
      refine go_step (fun _ => ev_run 3 (F' := (225, [some (.ref 48), some (.ref 0), some (.ref 1000002), some (.long y6), none, some (.int y15), none, some (.int (a49 y15.toNatClampNeg)), some (.int (if ¬ (lg_cmp v21 y23) = (0 : Int32) then (0 : Int32) else (1 : Int32))), none], [.int (9 : Int32), .int (100 : Int32), .ref 1000002])) rfl) ?_
      obtain ⟨y29, hy29, h⟩ := okb h
      refine go_step (F1 := (228, [some (.ref 48), some (.ref 0), some (.ref 1000002), some (.long y6), none, some (.int y15), none, some (.int (a49 y15.toNatClampNeg)), some (.int (if ¬ (lg_cmp v21 y23) = (0 : Int32) then (0 : Int32) else (1 : Int32))), none], [.int y29])) (M1 := (H27, z25)) (fun _ => ev_call (x := (.invokestatic 89, 3, 160, 11, 659, .null)) (as := [.ref 1000002, .int (100 : Int32), .int (9 : Int32)]) (rest := []) rfl rfl (C_L_some (S := S) (d := d + 3) (z := z25) (x1 := (100 : Int32)) (x2 := (9 : Int32)) (xG_ro G28 hz (by decide) (by decide)) hy29) rfl) ?_
      refine go_step (fun _ => ev_run 2 (F' := (232, [some (.ref 48), some (.ref 0), some (.ref 1000002), some (.long y6), none, some (.int y15), none, some (.int (a49 y15.toNatClampNeg)), some (.int (if ¬ (lg_cmp v21 y23) = (0 : Int32) then (0 : Int32) else (1 : Int32))), some (.int y29)], [.int (if ¬ (lg_cmp v21 y23) = (0 : Int32) then (0 : Int32) else (1 : Int32))])) rfl) ?_
      refine go_if rfl (fun (b232 : (if ¬ (lg_cmp v21 y23) = (0 : Int32) then (0 : Int32) else (1 : Int32)) = (0 : Int32)) => ?_) (fun (b232 : ¬ ((if ¬ (lg_cmp v21 y23) = (0 : Int32) then (0 : Int32) else (1 : Int32)) = (0 : Int32))) => ?_)
      · have h := (if_pos b232).symm.trans h
        refine go_step (fun _ => ev_run 1 (F' := (276, [some (.ref 48), some (.ref 0), some (.ref 1000002), some (.long y6), none, some (.int y15), none, some (.int (a49 y15.toNatClampNeg)), some (.int (if ¬ (lg_cmp v21 y23) = (0 : Int32) then (0 : Int32) else (1 : Int32))), some (.int y29)], [.int (0 : Int32)])) rfl) ?_
        cases h
      · have h := (if_neg b232).symm.trans h
        refine go_step (fun _ => ev_run 2 (F' := (238, [some (.ref 48), some (.ref 0), some (.ref 1000002), some (.long y6), none, some (.int y15), none, some (.int (a49 y15.toNatClampNeg)), some (.int (if ¬ (lg_cmp v21 y23) = (0 : Int32) then (0 : Int32) else (1 : Int32))), some (.int y29)], [.int y29, .ref 0])) rfl) ?_
        rcases okx h with ⟨e31, y30, hy30, h⟩ | ⟨v32, y33, hy33, h⟩
        · cases h
        · skip
          refine go_step (F1 := (241, [some (.ref 48), some (.ref 0), some (.ref 1000002), some (.long y6), none, some (.int y15), none, some (.int (a49 y15.toNatClampNeg)), some (.int (if ¬ (lg_cmp v21 y23) = (0 : Int32) then (0 : Int32) else (1 : Int32))), some (.int y29)], [.long v32])) (M1 := (H27, z25)) (fun _ => ev_callV (x := (.invokevirtual 111, 3, 109, 10, 702, .null)) (as := [.int y29]) (rest := []) rfl rfl ((fH27 0 rfl).trans (xG_keep gH24 rfl ((fH17 0 rfl).trans (xG_keep gH12 rfl (xG_keep gH7 rfl (xG_keep gH3 rfl u_0)))))) (C_X11_zeros (S := S) (d := d + 1) (z := z25) (x1 := y29) ((fH27 0 rfl).trans (xG_keep gH24 rfl ((fH17 0 rfl).trans (xG_keep gH12 rfl (xG_keep gH7 rfl (xG_keep gH3 rfl u_0)))))) ((fH27 1 rfl).trans (xG_keep gH24 rfl ((fH17 1 rfl).trans (xG_keep gH12 rfl (xG_keep gH7 rfl (xG_keep gH3 rfl u_1)))))) ((fH27 8 rfl).trans (xG_keep gH24 rfl ((fH17 8 rfl).trans (xG_keep gH12 rfl (xG_keep gH7 rfl (xG_keep gH3 rfl u_8)))))) ((fH27 2 rfl).trans (xG_keep gH24 rfl ((fH17 2 rfl).trans (xG_keep gH12 rfl (xG_keep gH7 rfl (xG_keep gH3 rfl u_2)))))) hy33) rfl) ?_
          refine go_step (fun _ => ev_run 3 (F' := (244, [some (.ref 48), some (.ref 0), some (.ref 1000002), some (.long y6), none, some (.int y15), none, some (.int (a49 y15.toNatClampNeg)), some (.int (if ¬ (lg_cmp v21 y23) = (0 : Int32) then (0 : Int32) else (1 : Int32))), some (.int y29)], [.ref 48, .int (0 : Int32), .ref 48, .long v32])) rfl) ?_
          refine go_step (fun _ => ev_getf rfl ((fH27 48 rfl).trans (xG_keep gH24 rfl ((fH17 48 rfl).trans (xG_keep gH12 rfl (xG_keep gH7 rfl (xG_keep gH3 rfl u_48)))))) rfl) ?_
          refine go_step (fun _ => ev_run 2 (F' := (250, [some (.ref 48), some (.ref 0), some (.ref 1000002), some (.long y6), none, some (.int y15), none, some (.int (a49 y15.toNatClampNeg)), some (.int (if ¬ (lg_cmp v21 y23) = (0 : Int32) then (0 : Int32) else (1 : Int32))), some (.int y29)], [.int (0 : Int32), .int y29, .int c48_1, .int (0 : Int32), .ref 48, .long v32])) rfl) ?_
          obtain ⟨y34, hy34, h⟩ := okb h
          obtain ⟨⟨H35, z36⟩, hCH35, gH35⟩ := C_L_sumOf (S := S) (d := d + 4) (z := z25) (x1 := (0 : Int32)) (x2 := c48_1) (x3 := y29) (x4 := (0 : Int32)) G28.1 (xG_hz G28 hz (by decide)) ((fH27 48 rfl).trans (xG_keep gH24 rfl ((fH17 48 rfl).trans (xG_keep gH12 rfl (xG_keep gH7 rfl (xG_keep gH3 rfl u_48)))))) eH27 hy34
          have G37 := xG_t G28 gH35 rfl
          refine go_step (F1 := (253, [some (.ref 48), some (.ref 0), some (.ref 1000002), some (.long y6), none, some (.int y15), none, some (.int (a49 y15.toNatClampNeg)), some (.int (if ¬ (lg_cmp v21 y23) = (0 : Int32) then (0 : Int32) else (1 : Int32))), some (.int y29)], [.long y34, .long v32])) (M1 := (H35, z36)) (fun _ => ev_callV (x := (.invokevirtual 97, 3, 162, 11, 666, .null)) (as := [.int (0 : Int32), .int c48_1, .int y29, .int (0 : Int32)]) (rest := [.long v32]) rfl rfl ((fH27 48 rfl).trans (xG_keep gH24 rfl ((fH17 48 rfl).trans (xG_keep gH12 rfl (xG_keep gH7 rfl (xG_keep gH3 rfl u_48)))))) hCH35 rfl) ?_
          refine go_step (fun _ => ev_run 1 (F' := (254, [some (.ref 48), some (.ref 0), some (.ref 1000002), some (.long y6), none, some (.int y15), none, some (.int (a49 y15.toNatClampNeg)), some (.int (if ¬ (lg_cmp v21 y23) = (0 : Int32) then (0 : Int32) else (1 : Int32))), some (.int y29)], [.int (lg_cmp v32 y34)])) rfl) ?_
          refine go_if rfl (fun (b254 : ¬ (lg_cmp v32 y34) = (0 : Int32)) => ?_) (fun (b254 : ¬ (¬ (lg_cmp v32 y34) = (0 : Int32))) => ?_)
          · have h := (if_pos b254).symm.trans h
            refine go_step (fun _ => ev_run 1 (F' := (276, [some (.ref 48), some (.ref 0), some (.ref 1000002), some (.long y6), none, some (.int y15), none, some (.int (a49 y15.toNatClampNeg)), some (.int (if ¬ (lg_cmp v21 y23) = (0 : Int32) then (0 : Int32) else (1 : Int32))), some (.int y29)], [.int (0 : Int32)])) rfl) ?_
            cases h
          · have h := (if_neg b254).symm.trans h
            refine go_step (fun _ => ev_run 3 (F' := (260, [some (.ref 48), some (.ref 0), some (.ref 1000002), some (.long y6), none, some (.int y15), none, some (.int (a49 y15.toNatClampNeg)), some (.int (if ¬ (lg_cmp v21 y23) = (0 : Int32) then (0 : Int32) else (1 : Int32))), some (.int y29)], [.ref 48, .int (0 : Int32), .ref 0])) rfl) ?_
            refine go_step (fun _ => ev_getf rfl (xG_keep gH35 rfl ((fH27 48 rfl).trans (xG_keep gH24 rfl ((fH17 48 rfl).trans (xG_keep gH12 rfl (xG_keep gH7 rfl (xG_keep gH3 rfl u_48))))))) rfl) ?_
            rcases okx h with ⟨e39, y38, hy38, h⟩ | ⟨v40, y41, hy41, h⟩
            · cases h
            · skip
              refine go_step (F1 := (266, [some (.ref 48), some (.ref 0), some (.ref 1000002), some (.long y6), none, some (.int y15), none, some (.int (a49 y15.toNatClampNeg)), some (.int (if ¬ (lg_cmp v21 y23) = (0 : Int32) then (0 : Int32) else (1 : Int32))), some (.int y29)], [.long v40])) (M1 := (H35, z36)) (fun _ => ev_callV (x := (.invokevirtual 101, 3, 106, 10, 507, .null)) (as := [.int (0 : Int32), .int c48_1]) (rest := []) rfl rfl (xG_keep gH35 rfl ((fH27 0 rfl).trans (xG_keep gH24 rfl ((fH17 0 rfl).trans (xG_keep gH12 rfl (xG_keep gH7 rfl (xG_keep gH3 rfl u_0))))))) (C_X11_sum (S := S) (d := d + 2) (z := z36) (x1 := (0 : Int32)) (x2 := c48_1) (xG_keep gH35 rfl ((fH27 1 rfl).trans (xG_keep gH24 rfl ((fH17 1 rfl).trans (xG_keep gH12 rfl (xG_keep gH7 rfl (xG_keep gH3 rfl u_1))))))) (xG_keep gH35 rfl ((fH27 0 rfl).trans (xG_keep gH24 rfl ((fH17 0 rfl).trans (xG_keep gH12 rfl (xG_keep gH7 rfl (xG_keep gH3 rfl u_0))))))) (xG_keep gH35 rfl ((fH27 8 rfl).trans (xG_keep gH24 rfl ((fH17 8 rfl).trans (xG_keep gH12 rfl (xG_keep gH7 rfl (xG_keep gH3 rfl u_8))))))) (xG_keep gH35 rfl ((fH27 2 rfl).trans (xG_keep gH24 rfl ((fH17 2 rfl).trans (xG_keep gH12 rfl (xG_keep gH7 rfl (xG_keep gH3 rfl u_2))))))) hy41) rfl) ?_
              refine go_step (fun _ => ev_run 2 (F' := (268, [some (.ref 48), some (.ref 0), some (.ref 1000002), some (.long y6), none, some (.int y15), none, some (.int (a49 y15.toNatClampNeg)), some (.int (if ¬ (lg_cmp v21 y23) = (0 : Int32) then (0 : Int32) else (1 : Int32))), some (.int y29)], [.int (lg_cmp v40 y6)])) rfl) ?_
              refine go_if rfl (fun (b268 : ¬ (lg_cmp v40 y6) = (0 : Int32)) => ?_) (fun (b268 : ¬ (¬ (lg_cmp v40 y6) = (0 : Int32))) => ?_)
              · have h := (if_pos b268).symm.trans h
                refine go_step (fun _ => ev_run 1 (F' := (276, [some (.ref 48), some (.ref 0), some (.ref 1000002), some (.long y6), none, some (.int y15), none, some (.int (a49 y15.toNatClampNeg)), some (.int (if ¬ (lg_cmp v21 y23) = (0 : Int32) then (0 : Int32) else (1 : Int32))), some (.int y29)], [.int (0 : Int32)])) rfl) ?_
                cases h
              · have h := (if_neg b268).symm.trans h
                refine go_step (fun _ => ev_run 2 (F' := (276, [some (.ref 48), some (.ref 0), some (.ref 1000002), some (.long y6), none, some (.int y15), none, some (.int (a49 y15.toNatClampNeg)), some (.int (if ¬ (lg_cmp v21 y23) = (0 : Int32) then (0 : Int32) else (1 : Int32))), some (.int y29)], [.int (1 : Int32)])) rfl) ?_
                cases h
                exact Or.inr ⟨_, ev_ret rfl rfl rfl rfl, (H35, z36), rfl, (xG_keep gH35 rfl eH27), xG_le G37 (by decide)⟩
  obtain ⟨_, hE, M', rfl, hrest⟩ := go_end G
  exact ⟨M', hE, hrest⟩

/-! The law: areSums. Written by a program (wip/p46/dec). -/
def q_L_areSums_L2 (S : Nat × (Nat → Int32)) (c48_1 : Int32) (c48_2 : Int32) (c48_3 : Int32) (c48_4 : Int64) (c48_5 : Int64) (c48_6 : Int64) (c1_1 : Int32) (a2 : Nat → Int32) (a49 : Nat → Int32) (c8_0 : Int32) (c8_1 : Int32) (c8_2 : Int32) (c8_3 : Int32) (c8_4 : Int32) (c8_5 : Int32) : Nat → Int32 → Option (Int32 ⊕ Int32)
  | 0, _ => none
  | n + 1, l3 => (if (4 : Int32) ≤ l3 then (some (Sum.inl l3)) else ((q_L_some S ((90 : Int32) + l3) (c48_1 + (1 : Int32))).bind (fun y1 => ((q_L_some S ((94 : Int32) + l3) ((c48_1 - y1) + (1 : Int32))).bind (fun y2 => (xbnd (q_X11_librarySum y1 (y1 + y2) c1_1 a2) (fun e4 y3 => none) (fun v5 y6 => ((q_L_sumOf y1 (y1 + y2) (0 : Int32) (1 : Int32) c48_2 c48_3 c48_4 c48_5 c48_6 a49).bind (fun y7 => (if ¬ (lg_cmp v5 y7) = (0 : Int32) then (some (Sum.inr (0 : Int32))) else (xbnd (q_X11_sum y1 (y1 + y2) c1_1 c8_0 c8_1 c8_2 c8_3 c8_4 c8_5 a2) (fun e12 y11 => none) (fun v13 y14 => ((q_L_sumOf y1 (y1 + y2) (0 : Int32) (0 : Int32) c48_2 c48_3 c48_4 c48_5 c48_6 a49).bind (fun y15 => (if (lg_cmp v13 y15) = (0 : Int32) then (q_L_areSums_L2 S c48_1 c48_2 c48_3 c48_4 c48_5 c48_6 c1_1 a2 a49 c8_0 c8_1 c8_2 c8_3 c8_4 c8_5 n (l3 + (1 : Int32))) else (some (Sum.inr (0 : Int32))))))))))))))))))
def q_L_areSums_L112 (x3 : Int64) (c48_1 : Int32) (c1_1 : Int32) (a2 : Nat → Int32) (c8_0 : Int32) (c8_1 : Int32) (c8_2 : Int32) (c8_3 : Int32) (c8_4 : Int32) (c8_5 : Int32) : Nat → Int32 → Option (Int32 ⊕ Int32)
  | 0, _ => none
  | n + 1, l5 => (if c48_1 < l5 then (some (Sum.inl l5)) else (xbnd (q_X11_joined l5 c1_1 c8_0 c8_1 c8_2 c8_3 c8_4 c8_5 a2) (fun e2 y1 => none) (fun v3 y4 => (if (lg_cmp v3 x3) = (0 : Int32) then (q_L_areSums_L112 x3 c48_1 c1_1 a2 c8_0 c8_1 c8_2 c8_3 c8_4 c8_5 n (l5 + (1 : Int32))) else (some (Sum.inr (0 : Int32)))))))
def q_L_areSums (S : Nat × (Nat → Int32)) (c48_1 : Int32) (c48_2 : Int32) (c48_3 : Int32) (c48_4 : Int64) (c48_5 : Int64) (c48_6 : Int64) (c1_1 : Int32) (a2 : Nat → Int32) (a49 : Nat → Int32) (c8_0 : Int32) (c8_1 : Int32) (c8_2 : Int32) (c8_3 : Int32) (c8_4 : Int32) (c8_5 : Int32) : Option (Int32 × (Nat → Int32)) := (xlp (q_L_areSums_L2 S c48_1 c48_2 c48_3 c48_4 c48_5 c48_6 c1_1 a2 a49 c8_0 c8_1 c8_2 c8_3 c8_4 c8_5 5 (0 : Int32)) (fun y1 => ((q_L_sumOf (0 : Int32) c48_1 (0 : Int32) (0 : Int32) c48_2 c48_3 c48_4 c48_5 c48_6 a49).bind (fun y7 => (xlp (q_L_areSums_L112 y7 c48_1 c1_1 a2 c8_0 c8_1 c8_2 c8_3 c8_4 c8_5 10000 (0 : Int32)) (fun y11 => ((q_L_some S (98 : Int32) c48_1).bind (fun y17 => ((q_L_some S (99 : Int32) (256 : Int32)).bind (fun y18 => (if xin y17 64 = true then (if xin y17 64 = true then (xbnd (q_X11_changed y17 y18 c1_1 c8_0 c8_1 c8_2 c8_3 c8_4 c8_5 a2) (fun e22 y21 => none) (fun v23 y24 => ((q_L_sumOf (0 : Int32) c48_1 (0 : Int32) (0 : Int32) c48_2 c48_3 c48_4 c48_5 c48_6 (upd a49 y17.toNatClampNeg y18)).bind (fun y25 => (if xin y17 64 = true then ((q_L_some S (100 : Int32) (9 : Int32)).bind (fun y31 => (if (if ¬ (lg_cmp v23 y25) = (0 : Int32) then (0 : Int32) else (1 : Int32)) = (0 : Int32) then (some ((0 : Int32), (upd (upd a49 y17.toNatClampNeg y18) y17.toNatClampNeg (a49 y17.toNatClampNeg)))) else (xbnd (q_X11_zeros y31 c1_1 c8_0 c8_1 c8_2 c8_3 c8_4 c8_5 a2) (fun e33 y32 => none) (fun v34 y35 => ((q_L_sumOf (0 : Int32) c48_1 y31 (0 : Int32) c48_2 c48_3 c48_4 c48_5 c48_6 (upd (upd a49 y17.toNatClampNeg y18) y17.toNatClampNeg (a49 y17.toNatClampNeg))).bind (fun y36 => (if ¬ (lg_cmp v34 y36) = (0 : Int32) then (some ((0 : Int32), (upd (upd a49 y17.toNatClampNeg y18) y17.toNatClampNeg (a49 y17.toNatClampNeg)))) else (xbnd (q_X11_sum (0 : Int32) c48_1 c1_1 c8_0 c8_1 c8_2 c8_3 c8_4 c8_5 a2) (fun e41 y40 => none) (fun v42 y43 => (if ¬ (lg_cmp v42 y7) = (0 : Int32) then (some ((0 : Int32), (upd (upd a49 y17.toNatClampNeg y18) y17.toNatClampNeg (a49 y17.toNatClampNeg)))) else (some ((1 : Int32), (upd (upd a49 y17.toNatClampNeg y18) y17.toNatClampNeg (a49 y17.toNatClampNeg))))))))))))))) else none))))) else none) else none)))))) (fun y11 => (some (y11, a49))))))) (fun y1 => (some (y1, a49))))
theorem L_L_areSums_L2 {S : Nat × (Nat → Int32)} {d : Nat} {c48_1 : Int32} {c48_2 : Int32} {c48_3 : Int32} {c48_4 : Int64} {c48_5 : Int64} {c48_6 : Int64} {c1_1 : Int32} {a2 : Nat → Int32} {a49 : Nat → Int32} {c8_0 : Int32} {c8_1 : Int32} {c8_2 : Int32} {c8_3 : Int32} {c8_4 : Int32} {c8_5 : Int32} : ∀ (n : Nat) (l3 : Int32) (H : List xE) (z : Bool × Nat × Nat), xI (H, z) → z.2.1 + n * 2 ≤ 1000000 → H[48]? = some (.inr (11, [.ref 49, .int c48_1, .int c48_2, .int c48_3, .long c48_4, .long c48_5, .long c48_6])) → H[1]? = some (.inr (4, [.ref 2, .int c1_1])) → H[2]? = some (.inl (0, 64, .inl a2)) → H[0]? = some (oO) → H[49]? = some (.inl (0, 64, .inl a49)) → H[8]? = some (.inr (1, [.int c8_0, .int c8_1, .int c8_2, .int c8_3, .int c8_4, .int c8_5])) → ∀ x, q_L_areSums_L2 S c48_1 c48_2 c48_3 c48_4 c48_5 c48_6 c1_1 a2 a49 c8_0 c8_1 c8_2 c8_3 c8_4 c8_5 n l3 = some x → Go S (d + 6) 169 (2, [some (.ref 48), some (.ref 0), some (.ref 1000002), some (.int l3), none, none, none, none, none, none], []) (H, z) (fun F' M' => (∃ (m : Int32), x = Sum.inl m ∧ F' = (97, [some (.ref 48), some (.ref 0), some (.ref 1000002), none, none, none, none, none, none, none], [])) ∧ xG (n * 2) [] (H, z) M') (fun r => ∃ M' : xM, (∃ (c : Int32), x = Sum.inr c ∧ r = (.inr (some (.int c)), M')) ∧ xG (n * 2) [] (H, z) M') := by
  intro n
  induction n with
  | zero =>
    intro l3 H z hi hz u_48 u_1 u_2 u_0 u_49 u_8 x h
    unfold q_L_areSums_L2 at h
    cases h
  | succ n ih =>
    intro l3 H z hi hz u_48 u_1 u_2 u_0 u_49 u_8 x h
    have hz1 : z.2.1 + 2 ≤ 1000000 := by omega
    have G0 : xG 0 [] (H, z) (H, z) := xG_refl hi
    unfold q_L_areSums_L2 at h
    refine go_step (fun _ => ev_run 2 (F' := (4, [some (.ref 48), some (.ref 0), some (.ref 1000002), some (.int l3), none, none, none, none, none, none], [.int (4 : Int32), .int l3])) rfl) ?_
    refine go_icmp rfl (fun (b4 : (4 : Int32) ≤ l3) => ?_) (fun (b4 : ¬ ((4 : Int32) ≤ l3)) => ?_)
    · have h := (if_pos b4).symm.trans h
      refine go_step (fun _ => ev_forget (L' := [some (.ref 48), some (.ref 0), some (.ref 1000002), none, none, none, none, none, none, none]) (show xleP _ [some (.ref 48), some (.ref 0), some (.ref 1000002), some (.int l3), none, none, none, none, none, none] from ⟨rfl, ⟨rfl, ⟨rfl, trivial⟩⟩⟩) rfl) ?_
      cases h
      exact Or.inl ⟨_, (H, z), fun r hr => hr, ⟨_, rfl, rfl⟩, xG_ex G0 (by decide)⟩
    · have h := (if_neg b4).symm.trans h
      refine go_step (fun _ => ev_run 5 (F' := (13, [some (.ref 48), some (.ref 0), some (.ref 1000002), some (.int l3), none, none, none, none, none, none], [.ref 48, .int ((90 : Int32) + l3), .ref 1000002])) rfl) ?_
      refine go_step (fun _ => ev_getf rfl u_48 rfl) ?_
      refine go_step (fun _ => ev_run 2 (F' := (18, [some (.ref 48), some (.ref 0), some (.ref 1000002), some (.int l3), none, none, none, none, none, none], [.int (c48_1 + (1 : Int32)), .int ((90 : Int32) + l3), .ref 1000002])) rfl) ?_
      obtain ⟨y1, hy1, h⟩ := okb h
      refine go_step (F1 := (21, [some (.ref 48), some (.ref 0), some (.ref 1000002), some (.int l3), none, none, none, none, none, none], [.int y1])) (M1 := (H, z)) (fun _ => ev_call (x := (.invokestatic 89, 3, 160, 11, 659, .null)) (as := [.ref 1000002, .int ((90 : Int32) + l3), .int (c48_1 + (1 : Int32))]) (rest := []) rfl rfl (C_L_some (S := S) (d := d + 3) (z := z) (x1 := ((90 : Int32) + l3)) (x2 := (c48_1 + (1 : Int32))) (xG_ro G0 hz1 (by decide) (by decide)) hy1) rfl) ?_
      refine go_step (fun _ => ev_run 7 (F' := (31, [some (.ref 48), some (.ref 0), some (.ref 1000002), some (.int l3), some (.int y1), none, none, none, none, none], [.ref 48, .int ((94 : Int32) + l3), .ref 1000002, .int y1])) rfl) ?_
      refine go_step (fun _ => ev_getf rfl u_48 rfl) ?_
      refine go_step (fun _ => ev_run 4 (F' := (39, [some (.ref 48), some (.ref 0), some (.ref 1000002), some (.int l3), some (.int y1), none, none, none, none, none], [.int ((c48_1 - y1) + (1 : Int32)), .int ((94 : Int32) + l3), .ref 1000002, .int y1])) rfl) ?_
      obtain ⟨y2, hy2, h⟩ := okb h
      refine go_step (F1 := (42, [some (.ref 48), some (.ref 0), some (.ref 1000002), some (.int l3), some (.int y1), none, none, none, none, none], [.int y2, .int y1])) (M1 := (H, z)) (fun _ => ev_call (x := (.invokestatic 89, 3, 160, 11, 659, .null)) (as := [.ref 1000002, .int ((94 : Int32) + l3), .int ((c48_1 - y1) + (1 : Int32))]) (rest := [.int y1]) rfl rfl (C_L_some (S := S) (d := d + 3) (z := z) (x1 := ((94 : Int32) + l3)) (x2 := ((c48_1 - y1) + (1 : Int32))) (xG_ro G0 hz1 (by decide) (by decide)) hy2) rfl) ?_
      refine go_step (fun _ => ev_run 5 (F' := (50, [some (.ref 48), some (.ref 0), some (.ref 1000002), some (.int l3), some (.int y1), some (.int (y1 + y2)), none, none, none, none], [.int (y1 + y2), .int y1, .ref 0])) rfl) ?_
      rcases okx h with ⟨e4, y3, hy3, h⟩ | ⟨v5, y6, hy6, h⟩
      · cases h
      · skip
        refine go_step (F1 := (53, [some (.ref 48), some (.ref 0), some (.ref 1000002), some (.int l3), some (.int y1), some (.int (y1 + y2)), none, none, none, none], [.long v5])) (M1 := (H, z)) (fun _ => ev_callV (x := (.invokevirtual 93, 3, 104, 10, 449, .null)) (as := [.int y1, .int (y1 + y2)]) (rest := []) rfl rfl u_0 (C_X11_librarySum (S := S) (d := d + 2) (z := z) (x1 := y1) (x2 := (y1 + y2)) u_1 u_0 u_2 hy6) rfl) ?_
        refine go_step (fun _ => ev_run 5 (F' := (60, [some (.ref 48), some (.ref 0), some (.ref 1000002), some (.int l3), some (.int y1), some (.int (y1 + y2)), none, none, none, none], [.int (1 : Int32), .int (0 : Int32), .int (y1 + y2), .int y1, .ref 48, .long v5])) rfl) ?_
        obtain ⟨y7, hy7, h⟩ := okb h
        obtain ⟨⟨H8, z9⟩, hCH8, gH8⟩ := C_L_sumOf (S := S) (d := d + 4) (z := z) (x1 := y1) (x2 := (y1 + y2)) (x3 := (0 : Int32)) (x4 := (1 : Int32)) G0.1 (xG_hz G0 hz1 (by decide)) u_48 u_49 hy7
        have G10 := xG_t G0 gH8 rfl
        refine go_step (F1 := (63, [some (.ref 48), some (.ref 0), some (.ref 1000002), some (.int l3), some (.int y1), some (.int (y1 + y2)), none, none, none, none], [.long y7, .long v5])) (M1 := (H8, z9)) (fun _ => ev_callV (x := (.invokevirtual 97, 3, 162, 11, 666, .null)) (as := [.int y1, .int (y1 + y2), .int (0 : Int32), .int (1 : Int32)]) (rest := [.long v5]) rfl rfl u_48 hCH8 rfl) ?_
        refine go_step (fun _ => ev_run 1 (F' := (64, [some (.ref 48), some (.ref 0), some (.ref 1000002), some (.int l3), some (.int y1), some (.int (y1 + y2)), none, none, none, none], [.int (lg_cmp v5 y7)])) rfl) ?_
        refine go_if rfl (fun (b64 : ¬ (lg_cmp v5 y7) = (0 : Int32)) => ?_) (fun (b64 : ¬ (¬ (lg_cmp v5 y7) = (0 : Int32))) => ?_)
        · have h := (if_pos b64).symm.trans h
          refine go_step (fun _ => ev_run 1 (F' := (90, [some (.ref 48), some (.ref 0), some (.ref 1000002), some (.int l3), some (.int y1), some (.int (y1 + y2)), none, none, none, none], [.int (0 : Int32)])) rfl) ?_
          cases h
          exact Or.inr ⟨_, ev_ret rfl rfl rfl rfl, (H8, z9), ⟨_, rfl, rfl⟩, xG_ex G10 (by decide)⟩
        · have h := (if_neg b64).symm.trans h
          refine go_step (fun _ => ev_run 3 (F' := (72, [some (.ref 48), some (.ref 0), some (.ref 1000002), some (.int l3), some (.int y1), some (.int (y1 + y2)), none, none, none, none], [.int (y1 + y2), .int y1, .ref 0])) rfl) ?_
          rcases okx h with ⟨e12, y11, hy11, h⟩ | ⟨v13, y14, hy14, h⟩
          · cases h
          · skip
            refine go_step (F1 := (75, [some (.ref 48), some (.ref 0), some (.ref 1000002), some (.int l3), some (.int y1), some (.int (y1 + y2)), none, none, none, none], [.long v13])) (M1 := (H8, z9)) (fun _ => ev_callV (x := (.invokevirtual 101, 3, 106, 10, 507, .null)) (as := [.int y1, .int (y1 + y2)]) (rest := []) rfl rfl (xG_keep gH8 rfl u_0) (C_X11_sum (S := S) (d := d + 2) (z := z9) (x1 := y1) (x2 := (y1 + y2)) (xG_keep gH8 rfl u_1) (xG_keep gH8 rfl u_0) (xG_keep gH8 rfl u_8) (xG_keep gH8 rfl u_2) hy14) rfl) ?_
            refine go_step (fun _ => ev_run 5 (F' := (82, [some (.ref 48), some (.ref 0), some (.ref 1000002), some (.int l3), some (.int y1), some (.int (y1 + y2)), none, none, none, none], [.int (0 : Int32), .int (0 : Int32), .int (y1 + y2), .int y1, .ref 48, .long v13])) rfl) ?_
            obtain ⟨y15, hy15, h⟩ := okb h
            obtain ⟨⟨H16, z17⟩, hCH16, gH16⟩ := C_L_sumOf (S := S) (d := d + 4) (z := z9) (x1 := y1) (x2 := (y1 + y2)) (x3 := (0 : Int32)) (x4 := (0 : Int32)) G10.1 (xG_hz G10 hz1 (by decide)) (xG_keep gH8 rfl u_48) (xG_keep gH8 rfl u_49) hy15
            have G18 := xG_t G10 gH16 rfl
            refine go_step (F1 := (85, [some (.ref 48), some (.ref 0), some (.ref 1000002), some (.int l3), some (.int y1), some (.int (y1 + y2)), none, none, none, none], [.long y15, .long v13])) (M1 := (H16, z17)) (fun _ => ev_callV (x := (.invokevirtual 97, 3, 162, 11, 666, .null)) (as := [.int y1, .int (y1 + y2), .int (0 : Int32), .int (0 : Int32)]) (rest := [.long v13]) rfl rfl (xG_keep gH8 rfl u_48) hCH16 rfl) ?_
            refine go_step (fun _ => ev_run 1 (F' := (86, [some (.ref 48), some (.ref 0), some (.ref 1000002), some (.int l3), some (.int y1), some (.int (y1 + y2)), none, none, none, none], [.int (lg_cmp v13 y15)])) rfl) ?_
            refine go_if rfl (fun (b86 : (lg_cmp v13 y15) = (0 : Int32)) => ?_) (fun (b86 : ¬ ((lg_cmp v13 y15) = (0 : Int32))) => ?_)
            · have h := (if_pos b86).symm.trans h
              refine go_step (fun _ => ev_run 2 (F' := (2, [some (.ref 48), some (.ref 0), some (.ref 1000002), some (.int (l3 + (1 : Int32))), some (.int y1), some (.int (y1 + y2)), none, none, none, none], [])) rfl) ?_
              refine go_step (fun _ => ev_forget (L' := [some (.ref 48), some (.ref 0), some (.ref 1000002), some (.int (l3 + (1 : Int32))), none, none, none, none, none, none]) (show xleP _ [some (.ref 48), some (.ref 0), some (.ref 1000002), some (.int (l3 + (1 : Int32))), some (.int y1), some (.int (y1 + y2)), none, none, none, none] from ⟨rfl, ⟨rfl, ⟨rfl, ⟨rfl, trivial⟩⟩⟩⟩) rfl) ?_
              exact go_loop (ih (l3 + (1 : Int32)) H16 z17 G18.1 (xG_hn G18 hz (by decide)) (xG_keep gH16 rfl (xG_keep gH8 rfl u_48)) (xG_keep gH16 rfl (xG_keep gH8 rfl u_1)) (xG_keep gH16 rfl (xG_keep gH8 rfl u_2)) (xG_keep gH16 rfl (xG_keep gH8 rfl u_0)) (xG_keep gH16 rfl (xG_keep gH8 rfl u_49)) (xG_keep gH16 rfl (xG_keep gH8 rfl u_8)) _ h) G18 (by decide)
            · have h := (if_neg b86).symm.trans h
              refine go_step (fun _ => ev_run 1 (F' := (90, [some (.ref 48), some (.ref 0), some (.ref 1000002), some (.int l3), some (.int y1), some (.int (y1 + y2)), none, none, none, none], [.int (0 : Int32)])) rfl) ?_
              cases h
              exact Or.inr ⟨_, ev_ret rfl rfl rfl rfl, (H16, z17), ⟨_, rfl, rfl⟩, xG_ex G18 (by decide)⟩
theorem L_L_areSums_L112 {S : Nat × (Nat → Int32)} {d : Nat} {c48_2 : Int32} {c48_3 : Int32} {c48_4 : Int64} {c48_5 : Int64} {c48_6 : Int64} {a49 : Nat → Int32} {x3 : Int64} {c48_1 : Int32} {c1_1 : Int32} {a2 : Nat → Int32} {c8_0 : Int32} {c8_1 : Int32} {c8_2 : Int32} {c8_3 : Int32} {c8_4 : Int32} {c8_5 : Int32} : ∀ (n : Nat) (l5 : Int32) (H : List xE) (z : Bool × Nat × Nat), xI (H, z) → z.2.1 + n * 0 ≤ 1000000 → H[48]? = some (.inr (11, [.ref 49, .int c48_1, .int c48_2, .int c48_3, .long c48_4, .long c48_5, .long c48_6])) → H[1]? = some (.inr (4, [.ref 2, .int c1_1])) → H[2]? = some (.inl (0, 64, .inl a2)) → H[0]? = some (oO) → H[49]? = some (.inl (0, 64, .inl a49)) → H[8]? = some (.inr (1, [.int c8_0, .int c8_1, .int c8_2, .int c8_3, .int c8_4, .int c8_5])) → ∀ x, q_L_areSums_L112 x3 c48_1 c1_1 a2 c8_0 c8_1 c8_2 c8_3 c8_4 c8_5 n l5 = some x → Go S (d + 6) 169 (112, [some (.ref 48), some (.ref 0), some (.ref 1000002), some (.long x3), none, some (.int l5), none, none, none, none], []) (H, z) (fun F' M' => (∃ (m : Int32), x = Sum.inl m ∧ F' = (140, [some (.ref 48), some (.ref 0), some (.ref 1000002), some (.long x3), none, none, none, none, none, none], [])) ∧ xG (n * 0) [] (H, z) M') (fun r => ∃ M' : xM, (∃ (c : Int32), x = Sum.inr c ∧ r = (.inr (some (.int c)), M')) ∧ xG (n * 0) [] (H, z) M') := by
  intro n
  induction n with
  | zero =>
    intro l5 H z hi hz u_48 u_1 u_2 u_0 u_49 u_8 x h
    unfold q_L_areSums_L112 at h
    cases h
  | succ n ih =>
    intro l5 H z hi hz u_48 u_1 u_2 u_0 u_49 u_8 x h
    have hz1 : z.2.1 + 0 ≤ 1000000 := by omega
    have G0 : xG 0 [] (H, z) (H, z) := xG_refl hi
    unfold q_L_areSums_L112 at h
    refine go_step (fun _ => ev_run 2 (F' := (115, [some (.ref 48), some (.ref 0), some (.ref 1000002), some (.long x3), none, some (.int l5), none, none, none, none], [.ref 48, .int l5])) rfl) ?_
    refine go_step (fun _ => ev_getf rfl u_48 rfl) ?_
    refine go_icmp rfl (fun (b118 : c48_1 < l5) => ?_) (fun (b118 : ¬ (c48_1 < l5)) => ?_)
    · have h := (if_pos b118).symm.trans h
      refine go_step (fun _ => ev_forget (L' := [some (.ref 48), some (.ref 0), some (.ref 1000002), some (.long x3), none, none, none, none, none, none]) (show xleP _ [some (.ref 48), some (.ref 0), some (.ref 1000002), some (.long x3), none, some (.int l5), none, none, none, none] from ⟨rfl, ⟨rfl, ⟨rfl, ⟨rfl, trivial⟩⟩⟩⟩) rfl) ?_
      cases h
      exact Or.inl ⟨_, (H, z), fun r hr => hr, ⟨_, rfl, rfl⟩, xG_ex G0 (by decide)⟩
    · have h := (if_neg b118).symm.trans h
      refine go_step (fun _ => ev_run 2 (F' := (124, [some (.ref 48), some (.ref 0), some (.ref 1000002), some (.long x3), none, some (.int l5), none, none, none, none], [.int l5, .ref 0])) rfl) ?_
      rcases okx h with ⟨e2, y1, hy1, h⟩ | ⟨v3, y4, hy4, h⟩
      · cases h
      · skip
        refine go_step (F1 := (127, [some (.ref 48), some (.ref 0), some (.ref 1000002), some (.long x3), none, some (.int l5), none, none, none, none], [.long v3])) (M1 := (H, z)) (fun _ => ev_callV (x := (.invokevirtual 104, 3, 107, 10, 673, .null)) (as := [.int l5]) (rest := []) rfl rfl u_0 (C_X11_joined (S := S) (d := d) (z := z) (x1 := l5) u_1 u_0 u_8 u_2 hy4) rfl) ?_
        refine go_step (fun _ => ev_run 2 (F' := (129, [some (.ref 48), some (.ref 0), some (.ref 1000002), some (.long x3), none, some (.int l5), none, none, none, none], [.int (lg_cmp v3 x3)])) rfl) ?_
        refine go_if rfl (fun (b129 : (lg_cmp v3 x3) = (0 : Int32)) => ?_) (fun (b129 : ¬ ((lg_cmp v3 x3) = (0 : Int32))) => ?_)
        · have h := (if_pos b129).symm.trans h
          refine go_step (fun _ => ev_run 2 (F' := (112, [some (.ref 48), some (.ref 0), some (.ref 1000002), some (.long x3), none, some (.int (l5 + (1 : Int32))), none, none, none, none], [])) rfl) ?_
          exact go_loop (ih (l5 + (1 : Int32)) H z G0.1 (xG_hn G0 hz (by decide)) u_48 u_1 u_2 u_0 u_49 u_8 _ h) G0 (by decide)
        · have h := (if_neg b129).symm.trans h
          refine go_step (fun _ => ev_run 1 (F' := (133, [some (.ref 48), some (.ref 0), some (.ref 1000002), some (.long x3), none, some (.int l5), none, none, none, none], [.int (0 : Int32)])) rfl) ?_
          cases h
          exact Or.inr ⟨_, ev_ret rfl rfl rfl rfl, (H, z), ⟨_, rfl, rfl⟩, xG_ex G0 (by decide)⟩
set_option maxHeartbeats 4000000 in
theorem C_L_areSums {S : Nat × (Nat → Int32)} {d : Nat} {H : List xE} {z : Bool × Nat × Nat} {c48_1 : Int32} {c48_2 : Int32} {c48_3 : Int32} {c48_4 : Int64} {c48_5 : Int64} {c48_6 : Int64} {c1_1 : Int32} {a2 : Nat → Int32} {a49 : Nat → Int32} {c8_0 : Int32} {c8_1 : Int32} {c8_2 : Int32} {c8_3 : Int32} {c8_4 : Int32} {c8_5 : Int32} (hi : xI (H, z)) (hz : z.2.1 + 13 ≤ 1000000) (u_48 : H[48]? = some (.inr (11, [.ref 49, .int c48_1, .int c48_2, .int c48_3, .long c48_4, .long c48_5, .long c48_6]))) (u_1 : H[1]? = some (.inr (4, [.ref 2, .int c1_1]))) (u_2 : H[2]? = some (.inl (0, 64, .inl a2))) (u_0 : H[0]? = some (oO)) (u_49 : H[49]? = some (.inl (0, 64, .inl a49))) (u_8 : H[8]? = some (.inr (1, [.int c8_0, .int c8_1, .int c8_2, .int c8_3, .int c8_4, .int c8_5]))) {x : (Int32 × (Nat → Int32))} (h : q_L_areSums S c48_1 c48_2 c48_3 c48_4 c48_5 c48_6 c1_1 a2 a49 c8_0 c8_1 c8_2 c8_3 c8_4 c8_5 = some x) : ∃ M' : xM, Cm S (d + 6) 169 [.ref 48, .ref 0, .ref 1000002] (H, z) (.inr (some (.int x.1)), M') ∧ M'.1[49]? = some (.inl (0, 64, .inl x.2)) ∧ xG 13 [49] (H, z) M' := by
  have G : Go S (d + 6) 169 (0, [some (.ref 48), some (.ref 0), some (.ref 1000002), none, none, none, none, none, none, none], []) (H, z) (fun _ _ => False) (fun r => ∃ M' : xM, r = (.inr (some (.int x.1)), M') ∧ M'.1[49]? = some (.inl (0, 64, .inl x.2)) ∧ xG 13 [49] (H, z) M') := by
    have G0 : xG 0 [49] (H, z) (H, z) := xG_refl hi
    unfold q_L_areSums at h
    refine go_step (fun _ => ev_run 2 (F' := (2, [some (.ref 48), some (.ref 0), some (.ref 1000002), some (.int (0 : Int32)), none, none, none, none, none, none], [])) rfl) ?_
    rcases okl h with ⟨y1, hy1, h⟩ | ⟨y1, hy1, h⟩
    · rcases L_L_areSums_L2 (S := S) (d := d) 5 (0 : Int32) H z G0.1 (xG_hz G0 hz (by decide)) u_48 u_1 u_2 u_0 u_49 u_8 _ hy1 with ⟨_, ⟨H4, z5⟩, hr2, ⟨_, hx3, rfl⟩, gH4⟩ | ⟨_, _, _, ⟨_, hx3, _⟩, _⟩
      · cases hx3
        have G6 := xG_t G0 gH4 rfl
        refine go_step hr2 ?_
        refine go_step (fun _ => ev_run 3 (F' := (100, [some (.ref 48), some (.ref 0), some (.ref 1000002), none, none, none, none, none, none, none], [.ref 48, .int (0 : Int32), .ref 48])) rfl) ?_
        refine go_step (fun _ => ev_getf rfl (xG_keep gH4 rfl u_48) rfl) ?_
        refine go_step (fun _ => ev_run 2 (F' := (105, [some (.ref 48), some (.ref 0), some (.ref 1000002), none, none, none, none, none, none, none], [.int (0 : Int32), .int (0 : Int32), .int c48_1, .int (0 : Int32), .ref 48])) rfl) ?_
        obtain ⟨y7, hy7, h⟩ := okb h
        obtain ⟨⟨H8, z9⟩, hCH8, gH8⟩ := C_L_sumOf (S := S) (d := d + 4) (z := z5) (x1 := (0 : Int32)) (x2 := c48_1) (x3 := (0 : Int32)) (x4 := (0 : Int32)) G6.1 (xG_hz G6 hz (by decide)) (xG_keep gH4 rfl u_48) (xG_keep gH4 rfl u_49) hy7
        have G10 := xG_t G6 gH8 rfl
        refine go_step (F1 := (108, [some (.ref 48), some (.ref 0), some (.ref 1000002), none, none, none, none, none, none, none], [.long y7])) (M1 := (H8, z9)) (fun _ => ev_callV (x := (.invokevirtual 97, 3, 162, 11, 666, .null)) (as := [.int (0 : Int32), .int c48_1, .int (0 : Int32), .int (0 : Int32)]) (rest := []) rfl rfl (xG_keep gH4 rfl u_48) hCH8 rfl) ?_
        refine go_step (fun _ => ev_run 3 (F' := (112, [some (.ref 48), some (.ref 0), some (.ref 1000002), some (.long y7), none, some (.int (0 : Int32)), none, none, none, none], [])) rfl) ?_
        rcases okl h with ⟨y11, hy11, h⟩ | ⟨y11, hy11, h⟩
        · rcases L_L_areSums_L112 (S := S) (d := d) (x3 := y7) 10000 (0 : Int32) H8 z9 G10.1 (xG_hz G10 hz (by decide)) (xG_keep gH8 rfl (xG_keep gH4 rfl u_48)) (xG_keep gH8 rfl (xG_keep gH4 rfl u_1)) (xG_keep gH8 rfl (xG_keep gH4 rfl u_2)) (xG_keep gH8 rfl (xG_keep gH4 rfl u_0)) (xG_keep gH8 rfl (xG_keep gH4 rfl u_49)) (xG_keep gH8 rfl (xG_keep gH4 rfl u_8)) _ hy11 with ⟨_, ⟨H14, z15⟩, hr12, ⟨_, hx13, rfl⟩, gH14⟩ | ⟨_, _, _, ⟨_, hx13, _⟩, _⟩
          · cases hx13
            have G16 := xG_t G10 gH14 rfl
            refine go_step hr12 ?_
            refine go_step (fun _ => ev_run 3 (F' := (144, [some (.ref 48), some (.ref 0), some (.ref 1000002), some (.long y7), none, none, none, none, none, none], [.ref 48, .int (98 : Int32), .ref 1000002])) rfl) ?_
            refine go_step (fun _ => ev_getf rfl (xG_keep gH14 rfl (xG_keep gH8 rfl (xG_keep gH4 rfl u_48))) rfl) ?_
            obtain ⟨y17, hy17, h⟩ := okb h
            refine go_step (F1 := (150, [some (.ref 48), some (.ref 0), some (.ref 1000002), some (.long y7), none, none, none, none, none, none], [.int y17])) (M1 := (H14, z15)) (fun _ => ev_call (x := (.invokestatic 89, 3, 160, 11, 659, .null)) (as := [.ref 1000002, .int (98 : Int32), .int c48_1]) (rest := []) rfl rfl (C_L_some (S := S) (d := d + 3) (z := z15) (x1 := (98 : Int32)) (x2 := c48_1) (xG_ro G16 hz (by decide) (by decide)) hy17) rfl) ?_
            refine go_step (fun _ => ev_run 4 (F' := (158, [some (.ref 48), some (.ref 0), some (.ref 1000002), some (.long y7), none, some (.int y17), none, none, none, none], [.int (256 : Int32), .int (99 : Int32), .ref 1000002])) rfl) ?_
            obtain ⟨y18, hy18, h⟩ := okb h
            refine go_step (F1 := (161, [some (.ref 48), some (.ref 0), some (.ref 1000002), some (.long y7), none, some (.int y17), none, none, none, none], [.int y18])) (M1 := (H14, z15)) (fun _ => ev_call (x := (.invokestatic 89, 3, 160, 11, 659, .null)) (as := [.ref 1000002, .int (99 : Int32), .int (256 : Int32)]) (rest := []) rfl rfl (C_L_some (S := S) (d := d + 3) (z := z15) (x1 := (99 : Int32)) (x2 := (256 : Int32)) (xG_ro G16 hz (by decide) (by decide)) hy18) rfl) ?_
            refine go_step (fun _ => ev_run 2 (F' := (164, [some (.ref 48), some (.ref 0), some (.ref 1000002), some (.long y7), none, some (.int y17), some (.int y18), none, none, none], [.ref 48])) rfl) ?_
            refine go_step (fun _ => ev_getf rfl (xG_keep gH14 rfl (xG_keep gH8 rfl (xG_keep gH4 rfl u_48))) rfl) ?_
            refine go_step (fun _ => ev_run 1 (F' := (169, [some (.ref 48), some (.ref 0), some (.ref 1000002), some (.long y7), none, some (.int y17), some (.int y18), none, none, none], [.int y17, .ref 49])) rfl) ?_
            obtain ⟨g169, h⟩ := okg h
            refine go_step (fun _ => ev_iald rfl (xG_keep gH14 rfl (xG_keep gH8 rfl (xG_keep gH4 rfl u_49))) g169) ?_
            refine go_step (fun _ => ev_run 2 (F' := (173, [some (.ref 48), some (.ref 0), some (.ref 1000002), some (.long y7), none, some (.int y17), some (.int y18), some (.int (a49 y17.toNatClampNeg)), none, none], [.ref 48])) rfl) ?_
            refine go_step (fun _ => ev_getf rfl (xG_keep gH14 rfl (xG_keep gH8 rfl (xG_keep gH4 rfl u_48))) rfl) ?_
            refine go_step (fun _ => ev_run 2 (F' := (180, [some (.ref 48), some (.ref 0), some (.ref 1000002), some (.long y7), none, some (.int y17), some (.int y18), some (.int (a49 y17.toNatClampNeg)), none, none], [.int y18, .int y17, .ref 49])) rfl) ?_
            obtain ⟨g180, h⟩ := okg h
            refine go_iast rfl (xG_keep gH14 rfl (xG_keep gH8 rfl (xG_keep gH4 rfl u_49))) g180 (fun H19 (eH19 : H19[49]? = some (.inl (0, 64, .inl (upd a49 y17.toNatClampNeg y18)))) fH19 => ?_)
            have G20 := xG_w G16 fH19 rfl rfl
            refine go_step (fun _ => ev_run 3 (F' := (186, [some (.ref 48), some (.ref 0), some (.ref 1000002), some (.long y7), none, some (.int y17), some (.int y18), some (.int (a49 y17.toNatClampNeg)), none, none], [.int y18, .int y17, .ref 0])) rfl) ?_
            rcases okx h with ⟨e22, y21, hy21, h⟩ | ⟨v23, y24, hy24, h⟩
            · cases h
            · skip
              refine go_step (F1 := (189, [some (.ref 48), some (.ref 0), some (.ref 1000002), some (.long y7), none, some (.int y17), some (.int y18), some (.int (a49 y17.toNatClampNeg)), none, none], [.long v23])) (M1 := (H19, z15)) (fun _ => ev_callV (x := (.invokevirtual 108, 3, 108, 10, 682, .null)) (as := [.int y17, .int y18]) (rest := []) rfl rfl ((fH19 0 rfl).trans (xG_keep gH14 rfl (xG_keep gH8 rfl (xG_keep gH4 rfl u_0)))) (C_X11_changed (S := S) (d := d + 1) (z := z15) (x1 := y17) (x2 := y18) ((fH19 1 rfl).trans (xG_keep gH14 rfl (xG_keep gH8 rfl (xG_keep gH4 rfl u_1)))) ((fH19 0 rfl).trans (xG_keep gH14 rfl (xG_keep gH8 rfl (xG_keep gH4 rfl u_0)))) ((fH19 8 rfl).trans (xG_keep gH14 rfl (xG_keep gH8 rfl (xG_keep gH4 rfl u_8)))) ((fH19 2 rfl).trans (xG_keep gH14 rfl (xG_keep gH8 rfl (xG_keep gH4 rfl u_2)))) hy24) rfl) ?_
              refine go_step (fun _ => ev_run 3 (F' := (192, [some (.ref 48), some (.ref 0), some (.ref 1000002), some (.long y7), none, some (.int y17), some (.int y18), some (.int (a49 y17.toNatClampNeg)), none, none], [.ref 48, .int (0 : Int32), .ref 48, .long v23])) rfl) ?_
              refine go_step (fun _ => ev_getf rfl ((fH19 48 rfl).trans (xG_keep gH14 rfl (xG_keep gH8 rfl (xG_keep gH4 rfl u_48)))) rfl) ?_
              refine go_step (fun _ => ev_run 2 (F' := (197, [some (.ref 48), some (.ref 0), some (.ref 1000002), some (.long y7), none, some (.int y17), some (.int y18), some (.int (a49 y17.toNatClampNeg)), none, none], [.int (0 : Int32), .int (0 : Int32), .int c48_1, .int (0 : Int32), .ref 48, .long v23])) rfl) ?_
              obtain ⟨y25, hy25, h⟩ := okb h
              obtain ⟨⟨H26, z27⟩, hCH26, gH26⟩ := C_L_sumOf (S := S) (d := d + 4) (z := z15) (x1 := (0 : Int32)) (x2 := c48_1) (x3 := (0 : Int32)) (x4 := (0 : Int32)) G20.1 (xG_hz G20 hz (by decide)) ((fH19 48 rfl).trans (xG_keep gH14 rfl (xG_keep gH8 rfl (xG_keep gH4 rfl u_48)))) eH19 hy25
              have G28 := xG_t G20 gH26 rfl
              refine go_step (F1 := (200, [some (.ref 48), some (.ref 0), some (.ref 1000002), some (.long y7), none, some (.int y17), some (.int y18), some (.int (a49 y17.toNatClampNeg)), none, none], [.long y25, .long v23])) (M1 := (H26, z27)) (fun _ => ev_callV (x := (.invokevirtual 97, 3, 162, 11, 666, .null)) (as := [.int (0 : Int32), .int c48_1, .int (0 : Int32), .int (0 : Int32)]) (rest := [.long v23]) rfl rfl ((fH19 48 rfl).trans (xG_keep gH14 rfl (xG_keep gH8 rfl (xG_keep gH4 rfl u_48)))) hCH26 rfl) ?_
              refine go_step (fun _ => ev_run 1 (F' := (201, [some (.ref 48), some (.ref 0), some (.ref 1000002), some (.long y7), none, some (.int y17), some (.int y18), some (.int (a49 y17.toNatClampNeg)), none, none], [.int (lg_cmp v23 y25)])) rfl) ?_
              refine go_step (F1 := (209, [some (.ref 48), some (.ref 0), some (.ref 1000002), some (.long y7), none, some (.int y17), none, some (.int (a49 y17.toNatClampNeg)), none, none], [.int (if ¬ (lg_cmp v23 y25) = (0 : Int32) then (0 : Int32) else (1 : Int32))])) (M1 := (H26, z27)) (fun r K => ?_) ?_
              · skip
                refine ev_if rfl (fun (b201 : ¬ (lg_cmp v23 y25) = (0 : Int32)) => ?_) (fun (b201 : ¬ (¬ (lg_cmp v23 y25) = (0 : Int32))) => ?_)
                · skip
                  refine ev_run 1 (F' := (209, [some (.ref 48), some (.ref 0), some (.ref 1000002), some (.long y7), none, some (.int y17), some (.int y18), some (.int (a49 y17.toNatClampNeg)), none, none], [.int (0 : Int32)])) rfl ?_
                  refine ev_forget (L' := [some (.ref 48), some (.ref 0), some (.ref 1000002), some (.long y7), none, some (.int y17), none, some (.int (a49 y17.toNatClampNeg)), none, none]) (show xleP _ [some (.ref 48), some (.ref 0), some (.ref 1000002), some (.long y7), none, some (.int y17), some (.int y18), some (.int (a49 y17.toNatClampNeg)), none, none] from ⟨rfl, ⟨rfl, ⟨rfl, ⟨rfl, ⟨rfl, ⟨rfl, trivial⟩⟩⟩⟩⟩⟩) rfl ?_
                  exact ev_cast (show ((209, [some (.ref 48), some (.ref 0), some (.ref 1000002), some (.long y7), none, some (.int y17), none, some (.int (a49 y17.toNatClampNeg)), none, none], [.int (0 : Int32)]) : xF) = (209, [some (.ref 48), some (.ref 0), some (.ref 1000002), some (.long y7), none, some (.int y17), none, some (.int (a49 y17.toNatClampNeg)), none, none], [.int (if ¬ (lg_cmp v23 y25) = (0 : Int32) then (0 : Int32) else (1 : Int32))]) by first | (simp only [if_pos b201]; done) | rfl) rfl K
                · skip
                  refine ev_run 2 (F' := (209, [some (.ref 48), some (.ref 0), some (.ref 1000002), some (.long y7), none, some (.int y17), some (.int y18), some (.int (a49 y17.toNatClampNeg)), none, none], [.int (1 : Int32)])) rfl ?_
                  refine ev_forget (L' := [some (.ref 48), some (.ref 0), some (.ref 1000002), some (.long y7), none, some (.int y17), none, some (.int (a49 y17.toNatClampNeg)), none, none]) (show xleP _ [some (.ref 48), some (.ref 0), some (.ref 1000002), some (.long y7), none, some (.int y17), some (.int y18), some (.int (a49 y17.toNatClampNeg)), none, none] from ⟨rfl, ⟨rfl, ⟨rfl, ⟨rfl, ⟨rfl, ⟨rfl, trivial⟩⟩⟩⟩⟩⟩) rfl ?_
                  exact ev_cast (show ((209, [some (.ref 48), some (.ref 0), some (.ref 1000002), some (.long y7), none, some (.int y17), none, some (.int (a49 y17.toNatClampNeg)), none, none], [.int (1 : Int32)]) : xF) = (209, [some (.ref 48), some (.ref 0), some (.ref 1000002), some (.long y7), none, some (.int y17), none, some (.int (a49 y17.toNatClampNeg)), none, none], [.int (if ¬ (lg_cmp v23 y25) = (0 : Int32) then (0 : Int32) else (1 : Int32))]) by first | (simp only [if_neg b201]; done) | rfl) rfl K
              refine go_step (fun _ => ev_run 2 (F' := (212, [some (.ref 48), some (.ref 0), some (.ref 1000002), some (.long y7), none, some (.int y17), none, some (.int (a49 y17.toNatClampNeg)), some (.int (if ¬ (lg_cmp v23 y25) = (0 : Int32) then (0 : Int32) else (1 : Int32))), none], [.ref 48])) rfl) ?_
              refine go_step (fun _ => ev_getf rfl (xG_keep gH26 rfl ((fH19 48 rfl).trans (xG_keep gH14 rfl (xG_keep gH8 rfl (xG_keep gH4 rfl u_48))))) rfl) ?_
              refine go_step (fun _ => ev_run 2 (F' := (219, [some (.ref 48), some (.ref 0), some (.ref 1000002), some (.long y7), none, some (.int y17), none, some (.int (a49 y17.toNatClampNeg)), some (.int (if ¬ (lg_cmp v23 y25) = (0 : Int32) then (0 : Int32) else (1 : Int32))), none], [.int (a49 y17.toNatClampNeg), .int y17, .ref 49])) rfl) ?_
              obtain ⟨g219, h⟩ := okg h
              refine go_iast rfl (xG_keep gH26 rfl eH19) g219 (fun H29 (eH29 : H29[49]? = some (.inl (0, 64, .inl (upd (upd a49 y17.toNatClampNeg y18) y17.toNatClampNeg (a49 y17.toNatClampNeg))))) fH29 => ?_)
              have G30 := xG_w G28 fH29 rfl rfl
              refine go_step (fun _ => ev_run 3 (F' := (225, [some (.ref 48), some (.ref 0), some (.ref 1000002), some (.long y7), none, some (.int y17), none, some (.int (a49 y17.toNatClampNeg)), some (.int (if ¬ (lg_cmp v23 y25) = (0 : Int32) then (0 : Int32) else (1 : Int32))), none], [.int (9 : Int32), .int (100 : Int32), .ref 1000002])) rfl) ?_
              obtain ⟨y31, hy31, h⟩ := okb h
              refine go_step (F1 := (228, [some (.ref 48), some (.ref 0), some (.ref 1000002), some (.long y7), none, some (.int y17), none, some (.int (a49 y17.toNatClampNeg)), some (.int (if ¬ (lg_cmp v23 y25) = (0 : Int32) then (0 : Int32) else (1 : Int32))), none], [.int y31])) (M1 := (H29, z27)) (fun _ => ev_call (x := (.invokestatic 89, 3, 160, 11, 659, .null)) (as := [.ref 1000002, .int (100 : Int32), .int (9 : Int32)]) (rest := []) rfl rfl (C_L_some (S := S) (d := d + 3) (z := z27) (x1 := (100 : Int32)) (x2 := (9 : Int32)) (xG_ro G30 hz (by decide) (by decide)) hy31) rfl) ?_
              refine go_step (fun _ => ev_run 2 (F' := (232, [some (.ref 48), some (.ref 0), some (.ref 1000002), some (.long y7), none, some (.int y17), none, some (.int (a49 y17.toNatClampNeg)), some (.int (if ¬ (lg_cmp v23 y25) = (0 : Int32) then (0 : Int32) else (1 : Int32))), some (.int y31)], [.int (if ¬ (lg_cmp v23 y25) = (0 : Int32) then (0 : Int32) else (1 : Int32))])) rfl) ?_
              refine go_if rfl (fun (b232 : (if ¬ (lg_cmp v23 y25) = (0 : Int32) then (0 : Int32) else (1 : Int32)) = (0 : Int32)) => ?_) (fun (b232 : ¬ ((if ¬ (lg_cmp v23 y25) = (0 : Int32) then (0 : Int32) else (1 : Int32)) = (0 : Int32))) => ?_)
              · have h := (if_pos b232).symm.trans h
                refine go_step (fun _ => ev_run 1 (F' := (276, [some (.ref 48), some (.ref 0), some (.ref 1000002), some (.long y7), none, some (.int y17), none, some (.int (a49 y17.toNatClampNeg)), some (.int (if ¬ (lg_cmp v23 y25) = (0 : Int32) then (0 : Int32) else (1 : Int32))), some (.int y31)], [.int (0 : Int32)])) rfl) ?_
                cases h
                exact Or.inr ⟨_, ev_ret rfl rfl rfl rfl, (H29, z27), rfl, eH29, xG_le G30 (by decide)⟩
              · have h := (if_neg b232).symm.trans h
                refine go_step (fun _ => ev_run 2 (F' := (238, [some (.ref 48), some (.ref 0), some (.ref 1000002), some (.long y7), none, some (.int y17), none, some (.int (a49 y17.toNatClampNeg)), some (.int (if ¬ (lg_cmp v23 y25) = (0 : Int32) then (0 : Int32) else (1 : Int32))), some (.int y31)], [.int y31, .ref 0])) rfl) ?_
                rcases okx h with ⟨e33, y32, hy32, h⟩ | ⟨v34, y35, hy35, h⟩
                · cases h
                · skip
                  refine go_step (F1 := (241, [some (.ref 48), some (.ref 0), some (.ref 1000002), some (.long y7), none, some (.int y17), none, some (.int (a49 y17.toNatClampNeg)), some (.int (if ¬ (lg_cmp v23 y25) = (0 : Int32) then (0 : Int32) else (1 : Int32))), some (.int y31)], [.long v34])) (M1 := (H29, z27)) (fun _ => ev_callV (x := (.invokevirtual 111, 3, 109, 10, 702, .null)) (as := [.int y31]) (rest := []) rfl rfl ((fH29 0 rfl).trans (xG_keep gH26 rfl ((fH19 0 rfl).trans (xG_keep gH14 rfl (xG_keep gH8 rfl (xG_keep gH4 rfl u_0)))))) (C_X11_zeros (S := S) (d := d + 1) (z := z27) (x1 := y31) ((fH29 0 rfl).trans (xG_keep gH26 rfl ((fH19 0 rfl).trans (xG_keep gH14 rfl (xG_keep gH8 rfl (xG_keep gH4 rfl u_0)))))) ((fH29 1 rfl).trans (xG_keep gH26 rfl ((fH19 1 rfl).trans (xG_keep gH14 rfl (xG_keep gH8 rfl (xG_keep gH4 rfl u_1)))))) ((fH29 8 rfl).trans (xG_keep gH26 rfl ((fH19 8 rfl).trans (xG_keep gH14 rfl (xG_keep gH8 rfl (xG_keep gH4 rfl u_8)))))) ((fH29 2 rfl).trans (xG_keep gH26 rfl ((fH19 2 rfl).trans (xG_keep gH14 rfl (xG_keep gH8 rfl (xG_keep gH4 rfl u_2)))))) hy35) rfl) ?_
                  refine go_step (fun _ => ev_run 3 (F' := (244, [some (.ref 48), some (.ref 0), some (.ref 1000002), some (.long y7), none, some (.int y17), none, some (.int (a49 y17.toNatClampNeg)), some (.int (if ¬ (lg_cmp v23 y25) = (0 : Int32) then (0 : Int32) else (1 : Int32))), some (.int y31)], [.ref 48, .int (0 : Int32), .ref 48, .long v34])) rfl) ?_
                  refine go_step (fun _ => ev_getf rfl ((fH29 48 rfl).trans (xG_keep gH26 rfl ((fH19 48 rfl).trans (xG_keep gH14 rfl (xG_keep gH8 rfl (xG_keep gH4 rfl u_48)))))) rfl) ?_
                  refine go_step (fun _ => ev_run 2 (F' := (250, [some (.ref 48), some (.ref 0), some (.ref 1000002), some (.long y7), none, some (.int y17), none, some (.int (a49 y17.toNatClampNeg)), some (.int (if ¬ (lg_cmp v23 y25) = (0 : Int32) then (0 : Int32) else (1 : Int32))), some (.int y31)], [.int (0 : Int32), .int y31, .int c48_1, .int (0 : Int32), .ref 48, .long v34])) rfl) ?_
                  obtain ⟨y36, hy36, h⟩ := okb h
                  obtain ⟨⟨H37, z38⟩, hCH37, gH37⟩ := C_L_sumOf (S := S) (d := d + 4) (z := z27) (x1 := (0 : Int32)) (x2 := c48_1) (x3 := y31) (x4 := (0 : Int32)) G30.1 (xG_hz G30 hz (by decide)) ((fH29 48 rfl).trans (xG_keep gH26 rfl ((fH19 48 rfl).trans (xG_keep gH14 rfl (xG_keep gH8 rfl (xG_keep gH4 rfl u_48)))))) eH29 hy36
                  have G39 := xG_t G30 gH37 rfl
                  refine go_step (F1 := (253, [some (.ref 48), some (.ref 0), some (.ref 1000002), some (.long y7), none, some (.int y17), none, some (.int (a49 y17.toNatClampNeg)), some (.int (if ¬ (lg_cmp v23 y25) = (0 : Int32) then (0 : Int32) else (1 : Int32))), some (.int y31)], [.long y36, .long v34])) (M1 := (H37, z38)) (fun _ => ev_callV (x := (.invokevirtual 97, 3, 162, 11, 666, .null)) (as := [.int (0 : Int32), .int c48_1, .int y31, .int (0 : Int32)]) (rest := [.long v34]) rfl rfl ((fH29 48 rfl).trans (xG_keep gH26 rfl ((fH19 48 rfl).trans (xG_keep gH14 rfl (xG_keep gH8 rfl (xG_keep gH4 rfl u_48)))))) hCH37 rfl) ?_
                  refine go_step (fun _ => ev_run 1 (F' := (254, [some (.ref 48), some (.ref 0), some (.ref 1000002), some (.long y7), none, some (.int y17), none, some (.int (a49 y17.toNatClampNeg)), some (.int (if ¬ (lg_cmp v23 y25) = (0 : Int32) then (0 : Int32) else (1 : Int32))), some (.int y31)], [.int (lg_cmp v34 y36)])) rfl) ?_
                  refine go_if rfl (fun (b254 : ¬ (lg_cmp v34 y36) = (0 : Int32)) => ?_) (fun (b254 : ¬ (¬ (lg_cmp v34 y36) = (0 : Int32))) => ?_)
                  · have h := (if_pos b254).symm.trans h
                    refine go_step (fun _ => ev_run 1 (F' := (276, [some (.ref 48), some (.ref 0), some (.ref 1000002), some (.long y7), none, some (.int y17), none, some (.int (a49 y17.toNatClampNeg)), some (.int (if ¬ (lg_cmp v23 y25) = (0 : Int32) then (0 : Int32) else (1 : Int32))), some (.int y31)], [.int (0 : Int32)])) rfl) ?_
                    cases h
                    exact Or.inr ⟨_, ev_ret rfl rfl rfl rfl, (H37, z38), rfl, (xG_keep gH37 rfl eH29), xG_le G39 (by decide)⟩
                  · have h := (if_neg b254).symm.trans h
                    refine go_step (fun _ => ev_run 3 (F' := (260, [some (.ref 48), some (.ref 0), some (.ref 1000002), some (.long y7), none, some (.int y17), none, some (.int (a49 y17.toNatClampNeg)), some (.int (if ¬ (lg_cmp v23 y25) = (0 : Int32) then (0 : Int32) else (1 : Int32))), some (.int y31)], [.ref 48, .int (0 : Int32), .ref 0])) rfl) ?_
                    refine go_step (fun _ => ev_getf rfl (xG_keep gH37 rfl ((fH29 48 rfl).trans (xG_keep gH26 rfl ((fH19 48 rfl).trans (xG_keep gH14 rfl (xG_keep gH8 rfl (xG_keep gH4 rfl u_48))))))) rfl) ?_
                    rcases okx h with ⟨e41, y40, hy40, h⟩ | ⟨v42, y43, hy43, h⟩
                    · cases h
                    · skip
                      refine go_step (F1 := (266, [some (.ref 48), some (.ref 0), some (.ref 1000002), some (.long y7), none, some (.int y17), none, some (.int (a49 y17.toNatClampNeg)), some (.int (if ¬ (lg_cmp v23 y25) = (0 : Int32) then (0 : Int32) else (1 : Int32))), some (.int y31)], [.long v42])) (M1 := (H37, z38)) (fun _ => ev_callV (x := (.invokevirtual 101, 3, 106, 10, 507, .null)) (as := [.int (0 : Int32), .int c48_1]) (rest := []) rfl rfl (xG_keep gH37 rfl ((fH29 0 rfl).trans (xG_keep gH26 rfl ((fH19 0 rfl).trans (xG_keep gH14 rfl (xG_keep gH8 rfl (xG_keep gH4 rfl u_0))))))) (C_X11_sum (S := S) (d := d + 2) (z := z38) (x1 := (0 : Int32)) (x2 := c48_1) (xG_keep gH37 rfl ((fH29 1 rfl).trans (xG_keep gH26 rfl ((fH19 1 rfl).trans (xG_keep gH14 rfl (xG_keep gH8 rfl (xG_keep gH4 rfl u_1))))))) (xG_keep gH37 rfl ((fH29 0 rfl).trans (xG_keep gH26 rfl ((fH19 0 rfl).trans (xG_keep gH14 rfl (xG_keep gH8 rfl (xG_keep gH4 rfl u_0))))))) (xG_keep gH37 rfl ((fH29 8 rfl).trans (xG_keep gH26 rfl ((fH19 8 rfl).trans (xG_keep gH14 rfl (xG_keep gH8 rfl (xG_keep gH4 rfl u_8))))))) (xG_keep gH37 rfl ((fH29 2 rfl).trans (xG_keep gH26 rfl ((fH19 2 rfl).trans (xG_keep gH14 rfl (xG_keep gH8 rfl (xG_keep gH4 rfl u_2))))))) hy43) rfl) ?_
                      refine go_step (fun _ => ev_run 2 (F' := (268, [some (.ref 48), some (.ref 0), some (.ref 1000002), some (.long y7), none, some (.int y17), none, some (.int (a49 y17.toNatClampNeg)), some (.int (if ¬ (lg_cmp v23 y25) = (0 : Int32) then (0 : Int32) else (1 : Int32))), some (.int y31)], [.int (lg_cmp v42 y7)])) rfl) ?_
                      refine go_if rfl (fun (b268 : ¬ (lg_cmp v42 y7) = (0 : Int32)) => ?_) (fun (b268 : ¬ (¬ (lg_cmp v42 y7) = (0 : Int32))) => ?_)
                      · have h := (if_pos b268).symm.trans h
                        refine go_step (fun _ => ev_run 1 (F' := (276, [some (.ref 48), some (.ref 0), some (.ref 1000002), some (.long y7), none, some (.int y17), none, some (.int (a49 y17.toNatClampNeg)), some (.int (if ¬ (lg_cmp v23 y25) = (0 : Int32) then (0 : Int32) else (1 : Int32))), some (.int y31)], [.int (0 : Int32)])) rfl) ?_
                        cases h
                        exact Or.inr ⟨_, ev_ret rfl rfl rfl rfl, (H37, z38), rfl, (xG_keep gH37 rfl eH29), xG_le G39 (by decide)⟩
                      · have h := (if_neg b268).symm.trans h
                        refine go_step (fun _ => ev_run 2 (F' := (276, [some (.ref 48), some (.ref 0), some (.ref 1000002), some (.long y7), none, some (.int y17), none, some (.int (a49 y17.toNatClampNeg)), some (.int (if ¬ (lg_cmp v23 y25) = (0 : Int32) then (0 : Int32) else (1 : Int32))), some (.int y31)], [.int (1 : Int32)])) rfl) ?_
                        cases h
                        exact Or.inr ⟨_, ev_ret rfl rfl rfl rfl, (H37, z38), rfl, (xG_keep gH37 rfl eH29), xG_le G39 (by decide)⟩
          · cases hx13
        · rcases L_L_areSums_L112 (S := S) (d := d) (x3 := y7) 10000 (0 : Int32) H8 z9 G10.1 (xG_hz G10 hz (by decide)) (xG_keep gH8 rfl (xG_keep gH4 rfl u_48)) (xG_keep gH8 rfl (xG_keep gH4 rfl u_1)) (xG_keep gH8 rfl (xG_keep gH4 rfl u_2)) (xG_keep gH8 rfl (xG_keep gH4 rfl u_0)) (xG_keep gH8 rfl (xG_keep gH4 rfl u_49)) (xG_keep gH8 rfl (xG_keep gH4 rfl u_8)) _ hy11 with ⟨_, _, _, ⟨_, hx13, _⟩, _⟩ | ⟨_, hE44, ⟨H45, z46⟩, ⟨_, hx13, rfl⟩, gH45⟩
          · cases hx13
          · cases hx13
            have G47 := xG_t G10 gH45 rfl
            cases h
            exact Or.inr ⟨_, hE44, (H45, z46), rfl, (xG_keep gH45 rfl (xG_keep gH8 rfl (xG_keep gH4 rfl u_49))), xG_le G47 (by decide)⟩
      · cases hx3
    · rcases L_L_areSums_L2 (S := S) (d := d) 5 (0 : Int32) H z G0.1 (xG_hz G0 hz (by decide)) u_48 u_1 u_2 u_0 u_49 u_8 _ hy1 with ⟨_, _, _, ⟨_, hx3, _⟩, _⟩ | ⟨_, hE48, ⟨H49, z50⟩, ⟨_, hx3, rfl⟩, gH49⟩
      · cases hx3
      · cases hx3
        have G51 := xG_t G0 gH49 rfl
        cases h
        exact Or.inr ⟨_, hE48, (H49, z50), rfl, (xG_keep gH49 rfl u_49), xG_le G51 (by decide)⟩
  obtain ⟨_, hE, M', rfl, hrest⟩ := go_end G
  exact ⟨M', hE, hrest⟩

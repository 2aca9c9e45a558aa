/-! The law: arePairs. Written by a program (wip/p46/dec). -/
def q_L_arePairs_L36 (x3 : Int32) (c8_0 : Int32) (c8_1 : Int32) : Nat → Int32 → (Nat → Int64) → (Nat → Int64) → Int64 → Int64 → Int64 → Int64 → Int64 → Int64 → Option (Int32 × (Nat → Int64) × (Nat → Int64) × Int64 × Int64 × Int64 × Int64 × Int64 × Int64)
  | 0, _, _, _, _, _, _, _, _, _ => none
  | n + 1, l4, a10, a11, c14_0, c14_1, c12_0, c12_1, c13_0, c13_1 => (if (64 : Int32) ≤ l4 then (some (l4, a10, a11, c14_0, c14_1, c12_0, c12_1, c13_0, c13_1)) else (if (32 : Int32) ≤ l4 then (xbnd (q_X11_polynomial (0 : Int32) (1 : Int32) ((1 : Int32) <<< ((l4 - (32 : Int32)) &&& (31 : Int32))) a10 a11 c14_0 c14_1) (fun e2 y1 => none) (fun v3 y4 => (if ¬ v3 = l4 then none else ((q_L_seen (0 : Int32) y4.1 y4.2.1 c12_0 c12_1 c8_0 c8_1 c13_0 c13_1 y4.2.2.1 y4.2.2.2).bind (fun y7 => (if x3 = (0 : Int32) then none else (if y7.1 = (if ¬ (l4 - l4 / x3 * x3) = (0 : Int32) then (1 : Int32) else (0 : Int32)) then (q_L_arePairs_L36 x3 c8_0 c8_1 n (l4 + (1 : Int32)) y4.1 y4.2.1 y7.2.2.2.2.2.2.1 y7.2.2.2.2.2.2.2 y7.2.2.1 y7.2.2.2.1 y7.2.2.2.2.1 y7.2.2.2.2.2.1) else none))))))) else (xbnd (q_X11_polynomial (0 : Int32) ((1 : Int32) ||| ((1 : Int32) <<< (l4 &&& (31 : Int32)))) (0 : Int32) a10 a11 c14_0 c14_1) (fun e11 y10 => none) (fun v12 y13 => (if ¬ v12 = l4 then none else ((q_L_seen (0 : Int32) y13.1 y13.2.1 c12_0 c12_1 c8_0 c8_1 c13_0 c13_1 y13.2.2.1 y13.2.2.2).bind (fun y16 => (if x3 = (0 : Int32) then none else (if y16.1 = (if ¬ (l4 - l4 / x3 * x3) = (0 : Int32) then (1 : Int32) else (0 : Int32)) then (q_L_arePairs_L36 x3 c8_0 c8_1 n (l4 + (1 : Int32)) y13.1 y13.2.1 y16.2.2.2.2.2.2.1 y16.2.2.2.2.2.2.2 y16.2.2.1 y16.2.2.2.1 y16.2.2.2.2.1 y16.2.2.2.2.2.1) else none)))))))))
def q_L_arePairs (a10 : Nat → Int64) (a11 : Nat → Int64) (c8_0 : Int32) (c8_1 : Int32) (c14_0 : Int64) (c14_1 : Int64) (c12_0 : Int64) (c12_1 : Int64) (c48_2 : Int32) (c13_0 : Int64) (c13_1 : Int64) (a16 : Nat → Int32) : Option (Int32 × (Nat → Int64) × (Nat → Int64) × Int64 × Int64 × Int64 × Int64 × Int64 × Int64 × (Nat → Int32)) := (xbnd (q_X11_ofKind (3 : Int32) a10 a11 c8_0 c8_1 c14_0 c14_1) (fun e2 y1 => none) (fun v3 y4 => ((q_L_order (3 : Int32) y4.1 y4.2.1 c12_0 c12_1).bind (fun y7 => (if c48_2 ≤ (12 : Int32) then ((q_L_arePairs_L36 y7.1 c8_0 c8_1 65 (1 : Int32) y4.1 y4.2.1 y4.2.2.1 y4.2.2.2 y7.2.2.1 y7.2.2.2 c13_0 c13_1).bind (fun y10 => (xbnd (q_X11_shortest (2 : Int32) a16 c8_0 c8_1 y10.2.2.2.1 y10.2.2.2.2.1) (fun e16 y15 => none) (fun v17 y18 => (if ¬ v17 = (if (48 : Int32) ≤ y7.1 then (-1 : Int32) else (y7.1 + (1 : Int32))) then none else (if ¬ v3 = c48_2 then none else (some ((1 : Int32), y10.2.1, y10.2.2.1, y18.2.1, y18.2.2, y10.2.2.2.2.2.1, y10.2.2.2.2.2.2.1, y10.2.2.2.2.2.2.2.1, y10.2.2.2.2.2.2.2.2, y18.1)))))))) else (if ¬ y7.1 = (-2 : Int32) then none else (some ((1 : Int32), y4.1, y4.2.1, y4.2.2.1, y4.2.2.2, y7.2.2.1, y7.2.2.2, c13_0, c13_1, a16))))))))
theorem L_L_arePairs_L36 {S : Nat × (Nat → Int32)} {d : Nat} {c8_2 : Int32} {c8_3 : Int32} {c8_4 : Int32} {c8_5 : Int32} {c48_1 : Int32} {c48_2 : Int32} {c48_3 : Int32} {c48_4 : Int64} {c48_5 : Int64} {c48_6 : Int64} {a16 : Nat → Int32} {x3 : Int32} {c8_0 : Int32} {c8_1 : Int32} {x2 : Int32} : ∀ (n : Nat) (l4 : Int32) (a10 : Nat → Int64) (a11 : Nat → Int64) (c14_0 : Int64) (c14_1 : Int64) (c12_0 : Int64) (c12_1 : Int64) (c13_0 : Int64) (c13_1 : Int64) (H : List xE) (z : Bool × Nat × Nat), xIn (H, z) → z.2.1 + n * 1 ≤ 1000000 → H[10]? = some (.inl (1, 8, .inr (.inl a10))) → H[11]? = some (.inl (1, 8, .inr (.inl a11))) → H[8]? = some (.inr (1, [.int c8_0, .int c8_1, .int c8_2, .int c8_3, .int c8_4, .int c8_5])) → H[14]? = some (.inr (3, [.long c14_0, .long c14_1])) → H[0]? = some (oO) → H[12]? = some (.inr (3, [.long c12_0, .long c12_1])) → H[48]? = some (.inr (11, [.ref 49, .int c48_1, .int c48_2, .int c48_3, .long c48_4, .long c48_5, .long c48_6])) → H[13]? = some (.inr (3, [.long c13_0, .long c13_1])) → H[16]? = some (.inl (0, 48, .inl a16)) → H[15]? = some (.inr (6, [.ref 16])) → ∀ x, q_L_arePairs_L36 x3 c8_0 c8_1 n l4 a10 a11 c14_0 c14_1 c12_0 c12_1 c13_0 c13_1 = some x → Go S (d + 6) 172 (36, [some (.ref 48), some (.ref 0), some (.int x2), some (.int x3), some (.int l4), none], []) (H, z) (fun F' M' => (F' = (115, [some (.ref 48), some (.ref 0), some (.int x2), some (.int x3), none, none], []) ∧ M'.1[10]? = some (.inl (1, 8, .inr (.inl x.2.1))) ∧ M'.1[11]? = some (.inl (1, 8, .inr (.inl x.2.2.1))) ∧ M'.1[14]? = some (.inr (3, [.long x.2.2.2.1, .long x.2.2.2.2.1])) ∧ M'.1[12]? = some (.inr (3, [.long x.2.2.2.2.2.1, .long x.2.2.2.2.2.2.1])) ∧ M'.1[13]? = some (.inr (3, [.long x.2.2.2.2.2.2.2.1, .long x.2.2.2.2.2.2.2.2]))) ∧ xG (n * 1) [10, 11, 14, 12, 13] (H, z) M') (fun _ => ∃ M' : xM, False ∧ xG (n * 1) [10, 11, 14, 12, 13] (H, z) M') := by
  intro n
  induction n with
  | zero =>
    intro l4 a10 a11 c14_0 c14_1 c12_0 c12_1 c13_0 c13_1 H z hi hz u_10 u_11 u_8 u_14 u_0 u_12 u_48 u_13 u_16 u_15 x h
    unfold q_L_arePairs_L36 at h
    cases h
  | succ n ih =>
    intro l4 a10 a11 c14_0 c14_1 c12_0 c12_1 c13_0 c13_1 H z hi hz u_10 u_11 u_8 u_14 u_0 u_12 u_48 u_13 u_16 u_15 x h
    have hz1 : z.2.1 + 1 ≤ 1000000 := by omega
    have G0 : xG 0 [10, 11, 14, 12, 13] (H, z) (H, z) := xG_refl hi
    unfold q_L_arePairs_L36 at h
    refine go_step (fun _ => ev_run 2 (F' := (40, [some (.ref 48), some (.ref 0), some (.int x2), some (.int x3), some (.int l4), none], [.int (64 : Int32), .int l4])) rfl) ?_
    refine go_icmp rfl (fun (b40 : (64 : Int32) ≤ l4) => ?_) (fun (b40 : ¬ ((64 : Int32) ≤ l4)) => ?_)
    · have h := (if_pos b40).symm.trans h
      refine go_step (fun _ => ev_forget (L' := [some (.ref 48), some (.ref 0), some (.int x2), some (.int x3), none, none]) (show xleP _ [some (.ref 48), some (.ref 0), some (.int x2), some (.int x3), some (.int l4), none] from ⟨rfl, ⟨rfl, ⟨rfl, ⟨rfl, trivial⟩⟩⟩⟩) rfl) ?_
      cases h
      exact Or.inl ⟨_, (H, z), fun r hr => hr, ⟨rfl, u_10, u_11, u_14, u_12, u_13⟩, xG_ex G0 (by decide)⟩
    · have h := (if_neg b40).symm.trans h
      refine go_step (fun _ => ev_run 2 (F' := (47, [some (.ref 48), some (.ref 0), some (.int x2), some (.int x3), some (.int l4), none], [.int (32 : Int32), .int l4])) rfl) ?_
      refine go_icmp rfl (fun (b47 : (32 : Int32) ≤ l4) => ?_) (fun (b47 : ¬ ((32 : Int32) ≤ l4)) => ?_)
      · have h := (if_pos b47).symm.trans h
        refine go_step (fun _ => ev_run 8 (F' := (75, [some (.ref 48), some (.ref 0), some (.int x2), some (.int x3), some (.int l4), none], [.int ((1 : Int32) <<< ((l4 - (32 : Int32)) &&& (31 : Int32))), .int (1 : Int32), .int (0 : Int32), .ref 0])) rfl) ?_
        rcases okx h with ⟨e2, y1, hy1, h⟩ | ⟨v3, y4, hy4, h⟩
        · cases h
        · skip
          obtain ⟨H5, hCH5, eH5_10, eH5_11, eH5_14, fH5⟩ := C_X11_polynomial (S := S) (d := d + 2) (z := z) (x1 := (0 : Int32)) (x2 := (1 : Int32)) (x3 := ((1 : Int32) <<< ((l4 - (32 : Int32)) &&& (31 : Int32)))) u_0 u_10 u_11 u_14 hy4
          have G6 := xG_w G0 fH5 rfl rfl
          refine go_step (F1 := (78, [some (.ref 48), some (.ref 0), some (.int x2), some (.int x3), some (.int l4), none], [.int v3])) (M1 := (H5, z)) (fun _ => ev_callV (x := (.invokevirtual 128, 3, 111, 10, 807, .null)) (as := [.int (0 : Int32), .int (1 : Int32), .int ((1 : Int32) <<< ((l4 - (32 : Int32)) &&& (31 : Int32)))]) (rest := []) rfl rfl u_0 hCH5 rfl) ?_
          refine go_step (fun _ => ev_run 3 (F' := (84, [some (.ref 48), some (.ref 0), some (.int x2), some (.int x3), some (.int l4), some (.int v3)], [.int l4, .int v3])) rfl) ?_
          refine go_icmp rfl (fun (b84 : ¬ v3 = l4) => ?_) (fun (b84 : ¬ (¬ v3 = l4)) => ?_)
          · have h := (if_pos b84).symm.trans h
            refine go_step (fun _ => ev_run 1 (F' := (108, [some (.ref 48), some (.ref 0), some (.int x2), some (.int x3), some (.int l4), some (.int v3)], [.int (0 : Int32)])) rfl) ?_
            cases h
          · have h := (if_neg b84).symm.trans h
            refine go_step (fun _ => ev_run 2 (F' := (89, [some (.ref 48), some (.ref 0), some (.int x2), some (.int x3), some (.int l4), some (.int v3)], [.int (0 : Int32), .ref 0])) rfl) ?_
            obtain ⟨y7, hy7, h⟩ := okb h
            obtain ⟨H8, hCH8, eH8_12, eH8_13, eH8_14, fH8⟩ := C_L_seen (S := S) (d := d + 1) (z := z) (x1 := (0 : Int32)) eH5_10 eH5_11 ((fH5 12 rfl).trans u_12) ((fH5 8 rfl).trans u_8) ((fH5 13 rfl).trans u_13) eH5_14 ((fH5 0 rfl).trans u_0) hy7
            have G9 := xG_zw (v := y7.2.1) G6 fH8 rfl rfl
            refine go_step (F1 := (92, [some (.ref 48), some (.ref 0), some (.int x2), some (.int x3), some (.int l4), some (.int v3)], [.int y7.1])) (M1 := (H8, (zX y7.2.1 z))) (fun _ => ev_call (x := (.invokestatic 135, 3, 168, 11, 862, .null)) (as := [.ref 0, .int (0 : Int32)]) (rest := []) rfl rfl hCH8 rfl) ?_
            refine go_step (fun _ => ev_run 2 (F' := (95, [some (.ref 48), some (.ref 0), some (.int x2), some (.int x3), some (.int l4), some (.int v3)], [.int x3, .int l4, .int y7.1])) rfl) ?_
            obtain ⟨d95, h⟩ := okd h
            refine go_step (fun _ => ev_rem rfl d95) ?_
            refine go_step (F1 := (104, [some (.ref 48), some (.ref 0), some (.int x2), some (.int x3), some (.int l4), none], [.int (if ¬ (l4 - l4 / x3 * x3) = (0 : Int32) then (1 : Int32) else (0 : Int32)), .int y7.1])) (M1 := (H8, (zX y7.2.1 z))) (fun r K => ?_) ?_
            · skip
              refine ev_if rfl (fun (b96 : ¬ (l4 - l4 / x3 * x3) = (0 : Int32)) => ?_) (fun (b96 : ¬ (¬ (l4 - l4 / x3 * x3) = (0 : Int32))) => ?_)
              · skip
                refine ev_run 1 (F' := (104, [some (.ref 48), some (.ref 0), some (.int x2), some (.int x3), some (.int l4), some (.int v3)], [.int (1 : Int32), .int y7.1])) rfl ?_
                refine ev_forget (L' := [some (.ref 48), some (.ref 0), some (.int x2), some (.int x3), some (.int l4), none]) (show xleP _ [some (.ref 48), some (.ref 0), some (.int x2), some (.int x3), some (.int l4), some (.int v3)] from ⟨rfl, ⟨rfl, ⟨rfl, ⟨rfl, ⟨rfl, trivial⟩⟩⟩⟩⟩) rfl ?_
                exact ev_cast (show ((104, [some (.ref 48), some (.ref 0), some (.int x2), some (.int x3), some (.int l4), none], [.int (1 : Int32), .int y7.1]) : xF) = (104, [some (.ref 48), some (.ref 0), some (.int x2), some (.int x3), some (.int l4), none], [.int (if ¬ (l4 - l4 / x3 * x3) = (0 : Int32) then (1 : Int32) else (0 : Int32)), .int y7.1]) by first | (simp only [if_pos b96]; done) | rfl) rfl K
              · skip
                refine ev_run 2 (F' := (104, [some (.ref 48), some (.ref 0), some (.int x2), some (.int x3), some (.int l4), some (.int v3)], [.int (0 : Int32), .int y7.1])) rfl ?_
                refine ev_forget (L' := [some (.ref 48), some (.ref 0), some (.int x2), some (.int x3), some (.int l4), none]) (show xleP _ [some (.ref 48), some (.ref 0), some (.int x2), some (.int x3), some (.int l4), some (.int v3)] from ⟨rfl, ⟨rfl, ⟨rfl, ⟨rfl, ⟨rfl, trivial⟩⟩⟩⟩⟩) rfl ?_
                exact ev_cast (show ((104, [some (.ref 48), some (.ref 0), some (.int x2), some (.int x3), some (.int l4), none], [.int (0 : Int32), .int y7.1]) : xF) = (104, [some (.ref 48), some (.ref 0), some (.int x2), some (.int x3), some (.int l4), none], [.int (if ¬ (l4 - l4 / x3 * x3) = (0 : Int32) then (1 : Int32) else (0 : Int32)), .int y7.1]) by first | (simp only [if_neg b96]; done) | rfl) rfl K
            refine go_icmp rfl (fun (b104 : y7.1 = (if ¬ (l4 - l4 / x3 * x3) = (0 : Int32) then (1 : Int32) else (0 : Int32))) => ?_) (fun (b104 : ¬ (y7.1 = (if ¬ (l4 - l4 / x3 * x3) = (0 : Int32) then (1 : Int32) else (0 : Int32)))) => ?_)
            · have h := (if_pos b104).symm.trans h
              refine go_step (fun _ => ev_run 2 (F' := (36, [some (.ref 48), some (.ref 0), some (.int x2), some (.int x3), some (.int (l4 + (1 : Int32))), none], [])) rfl) ?_
              exact go_loop (ih (l4 + (1 : Int32)) y4.1 y4.2.1 y7.2.2.2.2.2.2.1 y7.2.2.2.2.2.2.2 y7.2.2.1 y7.2.2.2.1 y7.2.2.2.2.1 y7.2.2.2.2.2.1 H8 (zX y7.2.1 z) G9.1 (xG_hn G9 hz (by decide)) ((fH8 10 rfl).trans eH5_10) ((fH8 11 rfl).trans eH5_11) ((fH8 8 rfl).trans ((fH5 8 rfl).trans u_8)) eH8_14 ((fH8 0 rfl).trans ((fH5 0 rfl).trans u_0)) eH8_12 ((fH8 48 rfl).trans ((fH5 48 rfl).trans u_48)) eH8_13 ((fH8 16 rfl).trans ((fH5 16 rfl).trans u_16)) ((fH8 15 rfl).trans ((fH5 15 rfl).trans u_15)) _ h) G9 (by decide)
            · have h := (if_neg b104).symm.trans h
              refine go_step (fun _ => ev_run 1 (F' := (108, [some (.ref 48), some (.ref 0), some (.int x2), some (.int x3), some (.int l4), none], [.int (0 : Int32)])) rfl) ?_
              cases h
      · have h := (if_neg b47).symm.trans h
        refine go_step (fun _ => ev_run 8 (F' := (59, [some (.ref 48), some (.ref 0), some (.int x2), some (.int x3), some (.int l4), none], [.int (0 : Int32), .int ((1 : Int32) ||| ((1 : Int32) <<< (l4 &&& (31 : Int32)))), .int (0 : Int32), .ref 0])) rfl) ?_
        rcases okx h with ⟨e11, y10, hy10, h⟩ | ⟨v12, y13, hy13, h⟩
        · cases h
        · skip
          obtain ⟨H14, hCH14, eH14_10, eH14_11, eH14_14, fH14⟩ := C_X11_polynomial (S := S) (d := d + 2) (z := z) (x1 := (0 : Int32)) (x2 := ((1 : Int32) ||| ((1 : Int32) <<< (l4 &&& (31 : Int32))))) (x3 := (0 : Int32)) u_0 u_10 u_11 u_14 hy13
          have G15 := xG_w G0 fH14 rfl rfl
          refine go_step (F1 := (62, [some (.ref 48), some (.ref 0), some (.int x2), some (.int x3), some (.int l4), none], [.int v12])) (M1 := (H14, z)) (fun _ => ev_callV (x := (.invokevirtual 128, 3, 111, 10, 807, .null)) (as := [.int (0 : Int32), .int ((1 : Int32) ||| ((1 : Int32) <<< (l4 &&& (31 : Int32)))), .int (0 : Int32)]) (rest := []) rfl rfl u_0 hCH14 rfl) ?_
          refine go_step (fun _ => ev_run 4 (F' := (84, [some (.ref 48), some (.ref 0), some (.int x2), some (.int x3), some (.int l4), some (.int v12)], [.int l4, .int v12])) rfl) ?_
          refine go_icmp rfl (fun (b84 : ¬ v12 = l4) => ?_) (fun (b84 : ¬ (¬ v12 = l4)) => ?_)
          · have h := (if_pos b84).symm.trans h
            refine go_step (fun _ => ev_run 1 (F' := (108, [some (.ref 48), some (.ref 0), some (.int x2), some (.int x3), some (.int l4), some (.int v12)], [.int (0 : Int32)])) rfl) ?_
            cases h
          · have h := (if_neg b84).symm.trans h
            refine go_step (fun _ => ev_run 2 (F' := (89, [some (.ref 48), some (.ref 0), some (.int x2), some (.int x3), some (.int l4), some (.int v12)], [.int (0 : Int32), .ref 0])) rfl) ?_
            obtain ⟨y16, hy16, h⟩ := okb h
            obtain ⟨H17, hCH17, eH17_12, eH17_13, eH17_14, fH17⟩ := C_L_seen (S := S) (d := d + 1) (z := z) (x1 := (0 : Int32)) eH14_10 eH14_11 ((fH14 12 rfl).trans u_12) ((fH14 8 rfl).trans u_8) ((fH14 13 rfl).trans u_13) eH14_14 ((fH14 0 rfl).trans u_0) hy16
            have G18 := xG_zw (v := y16.2.1) G15 fH17 rfl rfl
            refine go_step (F1 := (92, [some (.ref 48), some (.ref 0), some (.int x2), some (.int x3), some (.int l4), some (.int v12)], [.int y16.1])) (M1 := (H17, (zX y16.2.1 z))) (fun _ => ev_call (x := (.invokestatic 135, 3, 168, 11, 862, .null)) (as := [.ref 0, .int (0 : Int32)]) (rest := []) rfl rfl hCH17 rfl) ?_
            refine go_step (fun _ => ev_run 2 (F' := (95, [some (.ref 48), some (.ref 0), some (.int x2), some (.int x3), some (.int l4), some (.int v12)], [.int x3, .int l4, .int y16.1])) rfl) ?_
            obtain ⟨d95, h⟩ := okd h
            refine go_step (fun _ => ev_rem rfl d95) ?_
            refine go_step (F1 := (104, [some (.ref 48), some (.ref 0), some (.int x2), some (.int x3), some (.int l4), none], [.int (if ¬ (l4 - l4 / x3 * x3) = (0 : Int32) then (1 : Int32) else (0 : Int32)), .int y16.1])) (M1 := (H17, (zX y16.2.1 z))) (fun r K => ?_) ?_
            · skip
              refine ev_if rfl (fun (b96 : ¬ (l4 - l4 / x3 * x3) = (0 : Int32)) => ?_) (fun (b96 : ¬ (¬ (l4 - l4 / x3 * x3) = (0 : Int32))) => ?_)
              · skip
                refine ev_run 1 (F' := (104, [some (.ref 48), some (.ref 0), some (.int x2), some (.int x3), some (.int l4), some (.int v12)], [.int (1 : Int32), .int y16.1])) rfl ?_
                refine ev_forget (L' := [some (.ref 48), some (.ref 0), some (.int x2), some (.int x3), some (.int l4), none]) (show xleP _ [some (.ref 48), some (.ref 0), some (.int x2), some (.int x3), some (.int l4), some (.int v12)] from ⟨rfl, ⟨rfl, ⟨rfl, ⟨rfl, ⟨rfl, trivial⟩⟩⟩⟩⟩) rfl ?_
                exact ev_cast (show ((104, [some (.ref 48), some (.ref 0), some (.int x2), some (.int x3), some (.int l4), none], [.int (1 : Int32), .int y16.1]) : xF) = (104, [some (.ref 48), some (.ref 0), some (.int x2), some (.int x3), some (.int l4), none], [.int (if ¬ (l4 - l4 / x3 * x3) = (0 : Int32) then (1 : Int32) else (0 : Int32)), .int y16.1]) by first | (simp only [if_pos b96]; done) | rfl) rfl K
              · skip
                refine ev_run 2 (F' := (104, [some (.ref 48), some (.ref 0), some (.int x2), some (.int x3), some (.int l4), some (.int v12)], [.int (0 : Int32), .int y16.1])) rfl ?_
                refine ev_forget (L' := [some (.ref 48), some (.ref 0), some (.int x2), some (.int x3), some (.int l4), none]) (show xleP _ [some (.ref 48), some (.ref 0), some (.int x2), some (.int x3), some (.int l4), some (.int v12)] from ⟨rfl, ⟨rfl, ⟨rfl, ⟨rfl, ⟨rfl, trivial⟩⟩⟩⟩⟩) rfl ?_
                exact ev_cast (show ((104, [some (.ref 48), some (.ref 0), some (.int x2), some (.int x3), some (.int l4), none], [.int (0 : Int32), .int y16.1]) : xF) = (104, [some (.ref 48), some (.ref 0), some (.int x2), some (.int x3), some (.int l4), none], [.int (if ¬ (l4 - l4 / x3 * x3) = (0 : Int32) then (1 : Int32) else (0 : Int32)), .int y16.1]) by first | (simp only [if_neg b96]; done) | rfl) rfl K
            refine go_icmp rfl (fun (b104 : y16.1 = (if ¬ (l4 - l4 / x3 * x3) = (0 : Int32) then (1 : Int32) else (0 : Int32))) => ?_) (fun (b104 : ¬ (y16.1 = (if ¬ (l4 - l4 / x3 * x3) = (0 : Int32) then (1 : Int32) else (0 : Int32)))) => ?_)
            · have h := (if_pos b104).symm.trans h
              refine go_step (fun _ => ev_run 2 (F' := (36, [some (.ref 48), some (.ref 0), some (.int x2), some (.int x3), some (.int (l4 + (1 : Int32))), none], [])) rfl) ?_
              exact go_loop (ih (l4 + (1 : Int32)) y13.1 y13.2.1 y16.2.2.2.2.2.2.1 y16.2.2.2.2.2.2.2 y16.2.2.1 y16.2.2.2.1 y16.2.2.2.2.1 y16.2.2.2.2.2.1 H17 (zX y16.2.1 z) G18.1 (xG_hn G18 hz (by decide)) ((fH17 10 rfl).trans eH14_10) ((fH17 11 rfl).trans eH14_11) ((fH17 8 rfl).trans ((fH14 8 rfl).trans u_8)) eH17_14 ((fH17 0 rfl).trans ((fH14 0 rfl).trans u_0)) eH17_12 ((fH17 48 rfl).trans ((fH14 48 rfl).trans u_48)) eH17_13 ((fH17 16 rfl).trans ((fH14 16 rfl).trans u_16)) ((fH17 15 rfl).trans ((fH14 15 rfl).trans u_15)) _ h) G18 (by decide)
            · have h := (if_neg b104).symm.trans h
              refine go_step (fun _ => ev_run 1 (F' := (108, [some (.ref 48), some (.ref 0), some (.int x2), some (.int x3), some (.int l4), none], [.int (0 : Int32)])) rfl) ?_
              cases h
set_option maxHeartbeats 4000000 in
theorem C_L_arePairs {S : Nat × (Nat → Int32)} {d : Nat} {H : List xE} {z : Bool × Nat × Nat} {a10 : Nat → Int64} {a11 : Nat → Int64} {c8_0 : Int32} {c8_1 : Int32} {c8_2 : Int32} {c8_3 : Int32} {c8_4 : Int32} {c8_5 : Int32} {c14_0 : Int64} {c14_1 : Int64} {c12_0 : Int64} {c12_1 : Int64} {c48_1 : Int32} {c48_2 : Int32} {c48_3 : Int32} {c48_4 : Int64} {c48_5 : Int64} {c48_6 : Int64} {c13_0 : Int64} {c13_1 : Int64} {a16 : Nat → Int32} (hi : xIn (H, z)) (hz : z.2.1 + 66 ≤ 1000000) (u_10 : H[10]? = some (.inl (1, 8, .inr (.inl a10)))) (u_11 : H[11]? = some (.inl (1, 8, .inr (.inl a11)))) (u_8 : H[8]? = some (.inr (1, [.int c8_0, .int c8_1, .int c8_2, .int c8_3, .int c8_4, .int c8_5]))) (u_14 : H[14]? = some (.inr (3, [.long c14_0, .long c14_1]))) (u_0 : H[0]? = some (oO)) (u_12 : H[12]? = some (.inr (3, [.long c12_0, .long c12_1]))) (u_48 : H[48]? = some (.inr (11, [.ref 49, .int c48_1, .int c48_2, .int c48_3, .long c48_4, .long c48_5, .long c48_6]))) (u_13 : H[13]? = some (.inr (3, [.long c13_0, .long c13_1]))) (u_16 : H[16]? = some (.inl (0, 48, .inl a16))) (u_15 : H[15]? = some (.inr (6, [.ref 16]))) {x : (Int32 × (Nat → Int64) × (Nat → Int64) × Int64 × Int64 × Int64 × Int64 × Int64 × Int64 × (Nat → Int32))} (h : q_L_arePairs a10 a11 c8_0 c8_1 c14_0 c14_1 c12_0 c12_1 c48_2 c13_0 c13_1 a16 = some x) : ∃ M' : xM, Cm S (d + 6) 172 [.ref 48, .ref 0] (H, z) (.inr (some (.int x.1)), M') ∧ M'.1[10]? = some (.inl (1, 8, .inr (.inl x.2.1))) ∧ M'.1[11]? = some (.inl (1, 8, .inr (.inl x.2.2.1))) ∧ M'.1[14]? = some (.inr (3, [.long x.2.2.2.1, .long x.2.2.2.2.1])) ∧ M'.1[12]? = some (.inr (3, [.long x.2.2.2.2.2.1, .long x.2.2.2.2.2.2.1])) ∧ M'.1[13]? = some (.inr (3, [.long x.2.2.2.2.2.2.2.1, .long x.2.2.2.2.2.2.2.2.1])) ∧ M'.1[16]? = some (.inl (0, 48, .inl x.2.2.2.2.2.2.2.2.2)) ∧ xG 66 [10, 11, 14, 12, 13, 16] (H, z) M' := by
  have G : Go S (d + 6) 172 (0, [some (.ref 48), some (.ref 0), none, none, none, none], []) (H, z) (fun _ _ => False) (fun r => ∃ M' : xM, r = (.inr (some (.int x.1)), M') ∧ M'.1[10]? = some (.inl (1, 8, .inr (.inl x.2.1))) ∧ M'.1[11]? = some (.inl (1, 8, .inr (.inl x.2.2.1))) ∧ M'.1[14]? = some (.inr (3, [.long x.2.2.2.1, .long x.2.2.2.2.1])) ∧ M'.1[12]? = some (.inr (3, [.long x.2.2.2.2.2.1, .long x.2.2.2.2.2.2.1])) ∧ M'.1[13]? = some (.inr (3, [.long x.2.2.2.2.2.2.2.1, .long x.2.2.2.2.2.2.2.2.1])) ∧ M'.1[16]? = some (.inl (0, 48, .inl x.2.2.2.2.2.2.2.2.2)) ∧ xG 66 [10, 11, 14, 12, 13, 16] (H, z) M') := by
    have G0 : xG 0 [10, 11, 14, 12, 13, 16] (H, z) (H, z) := xG_refl hi
    unfold q_L_arePairs at h
    refine go_step (fun _ => ev_run 2 (F' := (2, [some (.ref 48), some (.ref 0), none, none, none, none], [.int (3 : Int32), .ref 0])) rfl) ?_
    rcases okx h with ⟨e2, y1, hy1, h⟩ | ⟨v3, y4, hy4, h⟩
    · cases h
    · skip
      obtain ⟨H5, hCH5, eH5_10, eH5_11, eH5_14, fH5⟩ := C_X11_ofKind (S := S) (d := d + 2) (z := z) (x1 := (3 : Int32)) u_0 u_10 u_11 u_8 u_14 hy4
      have G6 := xG_w G0 fH5 rfl rfl
      refine go_step (F1 := (5, [some (.ref 48), some (.ref 0), none, none, none, none], [.int v3])) (M1 := (H5, z)) (fun _ => ev_callV (x := (.invokevirtual 139, 3, 112, 10, 899, .null)) (as := [.int (3 : Int32)]) (rest := []) rfl rfl u_0 hCH5 rfl) ?_
      refine go_step (fun _ => ev_run 3 (F' := (8, [some (.ref 48), some (.ref 0), some (.int v3), none, none, none], [.int (3 : Int32), .ref 0])) rfl) ?_
      obtain ⟨y7, hy7, h⟩ := okb h
      obtain ⟨H8, hCH8, eH8_12, fH8⟩ := C_L_order (S := S) (d := d + 1) (z := z) (x1 := (3 : Int32)) eH5_10 eH5_11 ((fH5 12 rfl).trans u_12) ((fH5 0 rfl).trans u_0) hy7
      have G9 := xG_zw (v := y7.2.1) G6 fH8 rfl rfl
      refine go_step (F1 := (11, [some (.ref 48), some (.ref 0), some (.int v3), none, none, none], [.int y7.1])) (M1 := (H8, (zX y7.2.1 z))) (fun _ => ev_call (x := (.invokestatic 148, 3, 167, 11, 925, .null)) (as := [.ref 0, .int (3 : Int32)]) (rest := []) rfl rfl hCH8 rfl) ?_
      refine go_step (fun _ => ev_run 2 (F' := (13, [some (.ref 48), some (.ref 0), some (.int v3), some (.int y7.1), none, none], [.ref 48])) rfl) ?_
      refine go_step (fun _ => ev_getf rfl ((fH8 48 rfl).trans ((fH5 48 rfl).trans u_48)) rfl) ?_
      refine go_step (fun _ => ev_run 1 (F' := (18, [some (.ref 48), some (.ref 0), some (.int v3), some (.int y7.1), none, none], [.int (12 : Int32), .int c48_2])) rfl) ?_
      refine go_icmp rfl (fun (b18 : c48_2 ≤ (12 : Int32)) => ?_) (fun (b18 : ¬ (c48_2 ≤ (12 : Int32))) => ?_)
      · have h := (if_pos b18).symm.trans h
        refine go_step (fun _ => ev_run 2 (F' := (36, [some (.ref 48), some (.ref 0), some (.int v3), some (.int y7.1), some (.int (1 : Int32)), none], [])) rfl) ?_
        obtain ⟨y10, hy10, h⟩ := okb h
        obtain ⟨_, ⟨H12, z13⟩, hr11, ⟨rfl, eH12_10, eH12_11, eH12_14, eH12_12, eH12_13⟩, gH12⟩ := go_nrL (L_L_arePairs_L36 (S := S) (d := d) (x2 := v3) (x3 := y7.1) 65 (1 : Int32) y4.1 y4.2.1 y4.2.2.1 y4.2.2.2 y7.2.2.1 y7.2.2.2 c13_0 c13_1 H8 (zX y7.2.1 z) G9.1 (xG_hz G9 hz (by decide)) ((fH8 10 rfl).trans eH5_10) ((fH8 11 rfl).trans eH5_11) ((fH8 8 rfl).trans ((fH5 8 rfl).trans u_8)) ((fH8 14 rfl).trans eH5_14) ((fH8 0 rfl).trans ((fH5 0 rfl).trans u_0)) eH8_12 ((fH8 48 rfl).trans ((fH5 48 rfl).trans u_48)) ((fH8 13 rfl).trans ((fH5 13 rfl).trans u_13)) ((fH8 16 rfl).trans ((fH5 16 rfl).trans u_16)) ((fH8 15 rfl).trans ((fH5 15 rfl).trans u_15)) _ hy10)
        have G14 := xG_t G9 gH12 rfl
        refine go_step hr11 ?_
        refine go_step (fun _ => ev_run 2 (F' := (117, [some (.ref 48), some (.ref 0), some (.int v3), some (.int y7.1), none, none], [.int (2 : Int32), .ref 0])) rfl) ?_
        rcases okx h with ⟨e16, y15, hy15, h⟩ | ⟨v17, y18, hy18, h⟩
        · cases h
        · skip
          obtain ⟨H19, hCH19, eH19_16, eH19_14, fH19⟩ := C_X11_shortest (S := S) (d := d) (z := z13) (x1 := (2 : Int32)) (xG_keep gH12 rfl ((fH8 16 rfl).trans ((fH5 16 rfl).trans u_16))) (xG_keep gH12 rfl ((fH8 8 rfl).trans ((fH5 8 rfl).trans u_8))) (xG_keep gH12 rfl ((fH8 0 rfl).trans ((fH5 0 rfl).trans u_0))) (xG_keep gH12 rfl ((fH8 15 rfl).trans ((fH5 15 rfl).trans u_15))) eH12_14 hy18
          have G20 := xG_w G14 fH19 rfl rfl
          refine go_step (F1 := (120, [some (.ref 48), some (.ref 0), some (.int v3), some (.int y7.1), none, none], [.int v17])) (M1 := (H19, z13)) (fun _ => ev_callV (x := (.invokevirtual 150, 3, 119, 10, 960, .null)) (as := [.int (2 : Int32)]) (rest := []) rfl rfl (xG_keep gH12 rfl ((fH8 0 rfl).trans ((fH5 0 rfl).trans u_0))) hCH19 rfl) ?_
          refine go_step (fun _ => ev_run 4 (F' := (127, [some (.ref 48), some (.ref 0), some (.int v3), some (.int y7.1), some (.int v17), none], [.int (48 : Int32), .int y7.1, .int v17])) rfl) ?_
          refine go_step (F1 := (137, [some (.ref 48), none, some (.int v3), none, none, none], [.int (if (48 : Int32) ≤ y7.1 then (-1 : Int32) else (y7.1 + (1 : Int32))), .int v17])) (M1 := (H19, z13)) (fun r K => ?_) ?_
          · skip
            refine ev_icmp rfl (fun (b127 : (48 : Int32) ≤ y7.1) => ?_) (fun (b127 : ¬ ((48 : Int32) ≤ y7.1)) => ?_)
            · skip
              refine ev_run 1 (F' := (137, [some (.ref 48), some (.ref 0), some (.int v3), some (.int y7.1), some (.int v17), none], [.int (-1 : Int32), .int v17])) rfl ?_
              refine ev_forget (L' := [some (.ref 48), none, some (.int v3), none, none, none]) (show xleP _ [some (.ref 48), some (.ref 0), some (.int v3), some (.int y7.1), some (.int v17), none] from ⟨rfl, ⟨rfl, trivial⟩⟩) rfl ?_
              exact ev_cast (show ((137, [some (.ref 48), none, some (.int v3), none, none, none], [.int (-1 : Int32), .int v17]) : xF) = (137, [some (.ref 48), none, some (.int v3), none, none, none], [.int (if (48 : Int32) ≤ y7.1 then (-1 : Int32) else (y7.1 + (1 : Int32))), .int v17]) by first | (simp only [if_pos b127]; done) | rfl) rfl K
            · skip
              refine ev_run 4 (F' := (137, [some (.ref 48), some (.ref 0), some (.int v3), some (.int y7.1), some (.int v17), none], [.int (y7.1 + (1 : Int32)), .int v17])) rfl ?_
              refine ev_forget (L' := [some (.ref 48), none, some (.int v3), none, none, none]) (show xleP _ [some (.ref 48), some (.ref 0), some (.int v3), some (.int y7.1), some (.int v17), none] from ⟨rfl, ⟨rfl, trivial⟩⟩) rfl ?_
              exact ev_cast (show ((137, [some (.ref 48), none, some (.int v3), none, none, none], [.int (y7.1 + (1 : Int32)), .int v17]) : xF) = (137, [some (.ref 48), none, some (.int v3), none, none, none], [.int (if (48 : Int32) ≤ y7.1 then (-1 : Int32) else (y7.1 + (1 : Int32))), .int v17]) by first | (simp only [if_neg b127]; done) | rfl) rfl K
          refine go_icmp rfl (fun (b137 : ¬ v17 = (if (48 : Int32) ≤ y7.1 then (-1 : Int32) else (y7.1 + (1 : Int32)))) => ?_) (fun (b137 : ¬ (¬ v17 = (if (48 : Int32) ≤ y7.1 then (-1 : Int32) else (y7.1 + (1 : Int32))))) => ?_)
          · have h := (if_pos b137).symm.trans h
            refine go_step (fun _ => ev_run 1 (F' := (153, [some (.ref 48), none, some (.int v3), none, none, none], [.int (0 : Int32)])) rfl) ?_
            cases h
          · have h := (if_neg b137).symm.trans h
            refine go_step (fun _ => ev_run 2 (F' := (142, [some (.ref 48), none, some (.int v3), none, none, none], [.ref 48, .int v3])) rfl) ?_
            refine go_step (fun _ => ev_getf rfl ((fH19 48 rfl).trans (xG_keep gH12 rfl ((fH8 48 rfl).trans ((fH5 48 rfl).trans u_48)))) rfl) ?_
            refine go_icmp rfl (fun (b145 : ¬ v3 = c48_2) => ?_) (fun (b145 : ¬ (¬ v3 = c48_2)) => ?_)
            · have h := (if_pos b145).symm.trans h
              refine go_step (fun _ => ev_run 1 (F' := (153, [some (.ref 48), none, some (.int v3), none, none, none], [.int (0 : Int32)])) rfl) ?_
              cases h
            · have h := (if_neg b145).symm.trans h
              refine go_step (fun _ => ev_run 2 (F' := (153, [some (.ref 48), none, some (.int v3), none, none, none], [.int (1 : Int32)])) rfl) ?_
              cases h
              exact Or.inr ⟨_, ev_ret rfl rfl rfl rfl, (H19, z13), rfl, ((fH19 10 rfl).trans eH12_10), ((fH19 11 rfl).trans eH12_11), eH19_14, ((fH19 12 rfl).trans eH12_12), ((fH19 13 rfl).trans eH12_13), eH19_16, xG_le G20 (by decide)⟩
      · have h := (if_neg b18).symm.trans h
        refine go_step (fun _ => ev_run 2 (F' := (24, [some (.ref 48), some (.ref 0), some (.int v3), some (.int y7.1), none, none], [.int (-2 : Int32), .int y7.1])) rfl) ?_
        refine go_icmp rfl (fun (b24 : ¬ y7.1 = (-2 : Int32)) => ?_) (fun (b24 : ¬ (¬ y7.1 = (-2 : Int32))) => ?_)
        · have h := (if_pos b24).symm.trans h
          refine go_step (fun _ => ev_run 1 (F' := (32, [some (.ref 48), some (.ref 0), some (.int v3), some (.int y7.1), none, none], [.int (0 : Int32)])) rfl) ?_
          cases h
        · have h := (if_neg b24).symm.trans h
          refine go_step (fun _ => ev_run 2 (F' := (32, [some (.ref 48), some (.ref 0), some (.int v3), some (.int y7.1), none, none], [.int (1 : Int32)])) rfl) ?_
          cases h
          exact Or.inr ⟨_, ev_ret rfl rfl rfl rfl, (H8, (zX y7.2.1 z)), rfl, ((fH8 10 rfl).trans eH5_10), ((fH8 11 rfl).trans eH5_11), ((fH8 14 rfl).trans eH5_14), eH8_12, ((fH8 13 rfl).trans ((fH5 13 rfl).trans u_13)), ((fH8 16 rfl).trans ((fH5 16 rfl).trans u_16)), xG_le G9 (by decide)⟩
  obtain ⟨_, hE, M', rfl, hrest⟩ := go_end G
  exact ⟨M', hE, hrest⟩

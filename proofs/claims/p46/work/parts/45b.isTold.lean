/-! The law: isTold. Written by a program (wip/p46/dec). -/
def q_L_isTold_L7 (c48_1 : Int32) (c1_1 : Int32) (a2 : Nat → Int32) (a49 : Nat → Int32) : Nat → Int32 → Int32 → Int32 → Option (Int32 × Int32 × Int32)
  | 0, _, _, _ => none
  | n + 1, l2, l3, l4 => (if c48_1 ≤ l4 then (some (l2, l3, l4)) else (xbnd (q_X11_byteAt l4 c1_1 a2) (fun e2 y1 => none) (fun v3 y4 => (if xin l4 64 = true then (if v3 = (a49 l4.toNatClampNeg) then (if xin l4 64 = true then (q_L_isTold_L7 c48_1 c1_1 a2 a49 n (l2 + (a49 l4.toNatClampNeg)) (l3 + (l2 + (a49 l4.toNatClampNeg))) (l4 + (1 : Int32))) else none) else none) else none))))
def q_L_isTold (c48_1 : Int32) (c1_1 : Int32) (a2 : Nat → Int32) (a49 : Nat → Int32) : Option Int32 := ((q_L_isTold_L7 c48_1 c1_1 a2 a49 10000 (0 : Int32) (0 : Int32) (0 : Int32)).bind (fun y1 => ((q_X11_fletcher c1_1 a2).bind (fun y6 => (if ¬ y6 = (((256 : Int32) * (y1.2.1 - y1.2.1 / (255 : Int32) * (255 : Int32))) + (y1.1 - y1.1 / (255 : Int32) * (255 : Int32))) then none else ((q_X11_adler c1_1 a2).bind (fun y7 => (if ¬ (lg_cmp y7 (((65536 : Int64) * (((y1.2.1 + c48_1) - (y1.2.1 + c48_1) / (65521 : Int32) * (65521 : Int32)).toInt64)) + (((y1.1 + (1 : Int32)) - (y1.1 + (1 : Int32)) / (65521 : Int32) * (65521 : Int32)).toInt64))) = (0 : Int32) then none else (some (1 : Int32))))))))))
theorem L_L_isTold_L7 {S : Nat × (Nat → Int32)} {d : Nat} {c48_2 : Int32} {c48_3 : Int32} {c48_4 : Int64} {c48_5 : Int64} {c48_6 : Int64} {c48_1 : Int32} {c1_1 : Int32} {a2 : Nat → Int32} {a49 : Nat → Int32} : ∀ (n : Nat) (l2 : Int32) (l3 : Int32) (l4 : Int32) (H : List xE) (z : Bool × Nat × Nat), xIn (H, z) → z.2.1 + n * 0 ≤ 1000000 → H[48]? = some (.inr (11, [.ref 49, .int c48_1, .int c48_2, .int c48_3, .long c48_4, .long c48_5, .long c48_6])) → H[1]? = some (.inr (4, [.ref 2, .int c1_1])) → H[2]? = some (.inl (0, 64, .inl a2)) → H[0]? = some (oO) → H[49]? = some (.inl (0, 64, .inl a49)) → ∀ x, q_L_isTold_L7 c48_1 c1_1 a2 a49 n l2 l3 l4 = some x → Go S (d + 3) 177 (7, [some (.ref 48), some (.ref 0), some (.int l2), some (.int l3), some (.int l4)], []) (H, z) (fun F' M' => (F' = (54, [some (.ref 48), some (.ref 0), some (.int x.1), some (.int x.2.1), none], [])) ∧ xG (n * 0) [] (H, z) M') (fun _ => ∃ M' : xM, False ∧ xG (n * 0) [] (H, z) M') := by
  intro n
  induction n with
  | zero =>
    intro l2 l3 l4 H z hi hz u_48 u_1 u_2 u_0 u_49 x h
    unfold q_L_isTold_L7 at h
    cases h
  | succ n ih =>
    intro l2 l3 l4 H z hi hz u_48 u_1 u_2 u_0 u_49 x h
    have hz1 : z.2.1 + 0 ≤ 1000000 := by omega
    have G0 : xG 0 [] (H, z) (H, z) := xG_refl hi
    unfold q_L_isTold_L7 at h
    refine go_step (fun _ => ev_run 2 (F' := (10, [some (.ref 48), some (.ref 0), some (.int l2), some (.int l3), some (.int l4)], [.ref 48, .int l4])) rfl) ?_
    refine go_step (fun _ => ev_getf rfl u_48 rfl) ?_
    refine go_icmp rfl (fun (b13 : c48_1 ≤ l4) => ?_) (fun (b13 : ¬ (c48_1 ≤ l4)) => ?_)
    · have h := (if_pos b13).symm.trans h
      refine go_step (fun _ => ev_forget (L' := [some (.ref 48), some (.ref 0), some (.int l2), some (.int l3), none]) (show xleP _ [some (.ref 48), some (.ref 0), some (.int l2), some (.int l3), some (.int l4)] from ⟨rfl, ⟨rfl, ⟨rfl, ⟨rfl, trivial⟩⟩⟩⟩) rfl) ?_
      cases h
      exact Or.inl ⟨_, (H, z), fun r hr => hr, rfl, xG_ex G0 (by decide)⟩
    · have h := (if_neg b13).symm.trans h
      refine go_step (fun _ => ev_run 2 (F' := (19, [some (.ref 48), some (.ref 0), some (.int l2), some (.int l3), some (.int l4)], [.int l4, .ref 0])) rfl) ?_
      rcases okx h with ⟨e2, y1, hy1, h⟩ | ⟨v3, y4, hy4, h⟩
      · cases h
      · skip
        refine go_step (F1 := (22, [some (.ref 48), some (.ref 0), some (.int l2), some (.int l3), some (.int l4)], [.int v3])) (M1 := (H, z)) (fun _ => ev_callV (x := (.invokevirtual 119, 3, 101, 10, 750, .null)) (as := [.int l4]) (rest := []) rfl rfl u_0 (C_X11_byteAt (S := S) (d := d) (z := z) (x1 := l4) u_1 u_0 u_2 hy4) rfl) ?_
        refine go_step (fun _ => ev_run 1 (F' := (23, [some (.ref 48), some (.ref 0), some (.int l2), some (.int l3), some (.int l4)], [.ref 48, .int v3])) rfl) ?_
        refine go_step (fun _ => ev_getf rfl u_48 rfl) ?_
        refine go_step (fun _ => ev_run 1 (F' := (28, [some (.ref 48), some (.ref 0), some (.int l2), some (.int l3), some (.int l4)], [.int l4, .ref 49, .int v3])) rfl) ?_
        obtain ⟨g28, h⟩ := okg h
        refine go_step (fun _ => ev_iald rfl u_49 g28) ?_
        refine go_icmp rfl (fun (b29 : v3 = (a49 l4.toNatClampNeg)) => ?_) (fun (b29 : ¬ (v3 = (a49 l4.toNatClampNeg))) => ?_)
        · have h := (if_pos b29).symm.trans h
          refine go_step (fun _ => ev_run 2 (F' := (36, [some (.ref 48), some (.ref 0), some (.int l2), some (.int l3), some (.int l4)], [.ref 48, .int l2])) rfl) ?_
          refine go_step (fun _ => ev_getf rfl u_48 rfl) ?_
          refine go_step (fun _ => ev_run 1 (F' := (41, [some (.ref 48), some (.ref 0), some (.int l2), some (.int l3), some (.int l4)], [.int l4, .ref 49, .int l2])) rfl) ?_
          obtain ⟨g41, h⟩ := okg h
          refine go_step (fun _ => ev_iald rfl u_49 g41) ?_
          refine go_step (fun _ => ev_run 8 (F' := (7, [some (.ref 48), some (.ref 0), some (.int (l2 + (a49 l4.toNatClampNeg))), some (.int (l3 + (l2 + (a49 l4.toNatClampNeg)))), some (.int (l4 + (1 : Int32)))], [])) rfl) ?_
          exact go_loop (ih (l2 + (a49 l4.toNatClampNeg)) (l3 + (l2 + (a49 l4.toNatClampNeg))) (l4 + (1 : Int32)) H z G0.1 (xG_hn G0 hz (by decide)) u_48 u_1 u_2 u_0 u_49 _ h) G0 (by decide)
        · have h := (if_neg b29).symm.trans h
          refine go_step (fun _ => ev_run 1 (F' := (33, [some (.ref 48), some (.ref 0), some (.int l2), some (.int l3), some (.int l4)], [.int (0 : Int32)])) rfl) ?_
          cases h
set_option maxHeartbeats 4000000 in
theorem C_L_isTold {S : Nat × (Nat → Int32)} {d : Nat} {H : List xE} {z : Bool × Nat × Nat} {c48_1 : Int32} {c48_2 : Int32} {c48_3 : Int32} {c48_4 : Int64} {c48_5 : Int64} {c48_6 : Int64} {c1_1 : Int32} {a2 : Nat → Int32} {a49 : Nat → Int32} (hi : xIn (H, z)) (hz : z.2.1 + 0 ≤ 1000000) (u_48 : H[48]? = some (.inr (11, [.ref 49, .int c48_1, .int c48_2, .int c48_3, .long c48_4, .long c48_5, .long c48_6]))) (u_1 : H[1]? = some (.inr (4, [.ref 2, .int c1_1]))) (u_2 : H[2]? = some (.inl (0, 64, .inl a2))) (u_0 : H[0]? = some (oO)) (u_49 : H[49]? = some (.inl (0, 64, .inl a49))) {x : Int32} (h : q_L_isTold c48_1 c1_1 a2 a49 = some x) : ∃ M' : xM, Cm S (d + 3) 177 [.ref 48, .ref 0] (H, z) (.inr (some (.int x)), M') ∧ xG 0 [] (H, z) M' := by
  have G : Go S (d + 3) 177 (0, [some (.ref 48), some (.ref 0), none, none, none], []) (H, z) (fun _ _ => False) (fun r => ∃ M' : xM, r = (.inr (some (.int x)), M') ∧ xG 0 [] (H, z) M') := by
    have G0 : xG 0 [] (H, z) (H, z) := xG_refl hi
    unfold q_L_isTold at h
    refine go_step (fun _ => ev_run 6 (F' := (7, [some (.ref 48), some (.ref 0), some (.int (0 : Int32)), some (.int (0 : Int32)), some (.int (0 : Int32))], [])) rfl) ?_
    obtain ⟨y1, hy1, h⟩ := okb h
    obtain ⟨_, ⟨H3, z4⟩, hr2, rfl, gH3⟩ := go_nrL (L_L_isTold_L7 (S := S) (d := d) 10000 (0 : Int32) (0 : Int32) (0 : Int32) H z G0.1 (xG_hz G0 hz (by decide)) u_48 u_1 u_2 u_0 u_49 _ hy1)
    have G5 := xG_t G0 gH3 rfl
    refine go_step hr2 ?_
    refine go_step (fun _ => ev_run 1 (F' := (55, [some (.ref 48), some (.ref 0), some (.int y1.1), some (.int y1.2.1), none], [.ref 0])) rfl) ?_
    obtain ⟨y6, hy6, h⟩ := okb h
    refine go_step (F1 := (58, [some (.ref 48), some (.ref 0), some (.int y1.1), some (.int y1.2.1), none], [.int y6])) (M1 := (H3, z4)) (fun _ => ev_callV (x := (.invokevirtual 211, 3, 127, 10, 1275, .null)) (as := []) (rest := []) rfl rfl (xG_keep gH3 rfl u_0) (C_X11_fletcher (S := S) (d := d + 1) (z := z4) (xG_keep gH3 rfl u_0) (xG_keep gH3 rfl u_1) (xG_keep gH3 rfl u_2) hy6) rfl) ?_
    refine go_step (fun _ => ev_run 3 (F' := (65, [some (.ref 48), some (.ref 0), some (.int y1.1), some (.int y1.2.1), none], [.int (255 : Int32), .int y1.2.1, .int (256 : Int32), .int y6])) rfl) ?_
    refine go_step (fun _ => ev_rem rfl (by decide)) ?_
    refine go_step (fun _ => ev_run 3 (F' := (71, [some (.ref 48), some (.ref 0), some (.int y1.1), some (.int y1.2.1), none], [.int (255 : Int32), .int y1.1, .int ((256 : Int32) * (y1.2.1 - y1.2.1 / (255 : Int32) * (255 : Int32))), .int y6])) rfl) ?_
    refine go_step (fun _ => ev_rem rfl (by decide)) ?_
    refine go_step (fun _ => ev_run 1 (F' := (73, [some (.ref 48), some (.ref 0), some (.int y1.1), some (.int y1.2.1), none], [.int (((256 : Int32) * (y1.2.1 - y1.2.1 / (255 : Int32) * (255 : Int32))) + (y1.1 - y1.1 / (255 : Int32) * (255 : Int32))), .int y6])) rfl) ?_
    refine go_icmp rfl (fun (b73 : ¬ y6 = (((256 : Int32) * (y1.2.1 - y1.2.1 / (255 : Int32) * (255 : Int32))) + (y1.1 - y1.1 / (255 : Int32) * (255 : Int32)))) => ?_) (fun (b73 : ¬ (¬ y6 = (((256 : Int32) * (y1.2.1 - y1.2.1 / (255 : Int32) * (255 : Int32))) + (y1.1 - y1.1 / (255 : Int32) * (255 : Int32))))) => ?_)
    · have h := (if_pos b73).symm.trans h
      refine go_step (fun _ => ev_run 1 (F' := (111, [some (.ref 48), some (.ref 0), some (.int y1.1), some (.int y1.2.1), none], [.int (0 : Int32)])) rfl) ?_
      cases h
    · have h := (if_neg b73).symm.trans h
      refine go_step (fun _ => ev_run 1 (F' := (77, [some (.ref 48), some (.ref 0), some (.int y1.1), some (.int y1.2.1), none], [.ref 0])) rfl) ?_
      obtain ⟨y7, hy7, h⟩ := okb h
      refine go_step (F1 := (80, [some (.ref 48), some (.ref 0), some (.int y1.1), some (.int y1.2.1), none], [.long y7])) (M1 := (H3, z4)) (fun _ => ev_callV (x := (.invokevirtual 214, 3, 128, 10, 1279, .null)) (as := []) (rest := []) rfl rfl (xG_keep gH3 rfl u_0) (C_X11_adler (S := S) (d := d + 1) (z := z4) (xG_keep gH3 rfl u_0) (xG_keep gH3 rfl u_1) (xG_keep gH3 rfl u_2) hy7) rfl) ?_
      refine go_step (fun _ => ev_run 3 (F' := (85, [some (.ref 48), some (.ref 0), some (.int y1.1), some (.int y1.2.1), none], [.ref 48, .int y1.2.1, .long (65536 : Int64), .long y7])) rfl) ?_
      refine go_step (fun _ => ev_getf rfl (xG_keep gH3 rfl u_48) rfl) ?_
      refine go_step (fun _ => ev_run 2 (F' := (91, [some (.ref 48), some (.ref 0), some (.int y1.1), some (.int y1.2.1), none], [.int (65521 : Int32), .int (y1.2.1 + c48_1), .long (65536 : Int64), .long y7])) rfl) ?_
      refine go_step (fun _ => ev_rem rfl (by decide)) ?_
      refine go_step (fun _ => ev_run 6 (F' := (99, [some (.ref 48), some (.ref 0), some (.int y1.1), some (.int y1.2.1), none], [.int (65521 : Int32), .int (y1.1 + (1 : Int32)), .long ((65536 : Int64) * (((y1.2.1 + c48_1) - (y1.2.1 + c48_1) / (65521 : Int32) * (65521 : Int32)).toInt64)), .long y7])) rfl) ?_
      refine go_step (fun _ => ev_rem rfl (by decide)) ?_
      refine go_step (fun _ => ev_run 3 (F' := (103, [some (.ref 48), some (.ref 0), some (.int y1.1), some (.int y1.2.1), none], [.int (lg_cmp y7 (((65536 : Int64) * (((y1.2.1 + c48_1) - (y1.2.1 + c48_1) / (65521 : Int32) * (65521 : Int32)).toInt64)) + (((y1.1 + (1 : Int32)) - (y1.1 + (1 : Int32)) / (65521 : Int32) * (65521 : Int32)).toInt64)))])) rfl) ?_
      refine go_if rfl (fun (b103 : ¬ (lg_cmp y7 (((65536 : Int64) * (((y1.2.1 + c48_1) - (y1.2.1 + c48_1) / (65521 : Int32) * (65521 : Int32)).toInt64)) + (((y1.1 + (1 : Int32)) - (y1.1 + (1 : Int32)) / (65521 : Int32) * (65521 : Int32)).toInt64))) = (0 : Int32)) => ?_) (fun (b103 : ¬ (¬ (lg_cmp y7 (((65536 : Int64) * (((y1.2.1 + c48_1) - (y1.2.1 + c48_1) / (65521 : Int32) * (65521 : Int32)).toInt64)) + (((y1.1 + (1 : Int32)) - (y1.1 + (1 : Int32)) / (65521 : Int32) * (65521 : Int32)).toInt64))) = (0 : Int32))) => ?_)
      · have h := (if_pos b103).symm.trans h
        refine go_step (fun _ => ev_run 1 (F' := (111, [some (.ref 48), some (.ref 0), some (.int y1.1), some (.int y1.2.1), none], [.int (0 : Int32)])) rfl) ?_
        cases h
      · have h := (if_neg b103).symm.trans h
        refine go_step (fun _ => ev_run 2 (F' := (111, [some (.ref 48), some (.ref 0), some (.int y1.1), some (.int y1.2.1), none], [.int (1 : Int32)])) rfl) ?_
        cases h
        exact Or.inr ⟨_, ev_ret rfl rfl rfl rfl, (H3, z4), rfl, xG_le G5 (by decide)⟩
  obtain ⟨_, hE, M', rfl, hrest⟩ := go_end G
  exact ⟨M', hE, hrest⟩

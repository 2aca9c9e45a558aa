/-! Functions of the methods, and that the small machine does what they say: written by a program (wip/whole/dec). -/
def q_L_type (x1 : Int32) (x2 : Int32) (c1_1 : Int32) (c3_1 : Int32) (c3_2 : Int32) (c4_0 : Int32) (a6 : Nat → Int32) (a5 : Nat → Int32) (a2 : Nat → Int32) (a66 : Nat → Int64) : Option (Int32 × Bool × Int32 × Int32 × Int32 × (Nat → Int32) × (Nat → Int32) × (Nat → Int32) × (Nat → Int64)) := (xbnd (q_X11_type x1 x2 c1_1 c3_1 c3_2 c4_0 a6 a5 a2) (fun e2 y1 => (if e2 = 0 then (some ((1 : Int32), true, y1.1, y1.2.1, y1.2.2.1, y1.2.2.2.1, y1.2.2.2.2.1, y1.2.2.2.2.2, a66)) else if e2 = 1 then (some ((2 : Int32), true, y1.1, y1.2.1, y1.2.2.1, y1.2.2.2.1, y1.2.2.2.2.1, y1.2.2.2.2.2, a66)) else none)) (fun v3 y4 => (some ((0 : Int32), false, y4.1, y4.2.1, y4.2.2.1, y4.2.2.2.1, y4.2.2.2.2.1, y4.2.2.2.2.2, (vp_updL a66 (0 : Int32).toNatClampNeg (v3.toInt64))))))
theorem C_L_type {S : Nat × (Nat → Int32)} {d : Nat} {H : List xE} {z : Bool × Nat × Nat} {c1_1 : Int32} {c3_1 : Int32} {c3_2 : Int32} {c4_0 : Int32} {a6 : Nat → Int32} {a5 : Nat → Int32} {a2 : Nat → Int32} {a66 : Nat → Int64} {x1 : Int32} {x2 : Int32} (u_1 : H[1]? = some (.inr (4, [.ref 2, .int c1_1]))) (u_3 : H[3]? = some (.inr (2, [.ref 4, .int c3_1, .int c3_2]))) (u_4 : H[4]? = some (.inr (7, [.int c4_0, .ref 5, .ref 6]))) (u_6 : H[6]? = some (.inl (0, 10, .inl a6))) (u_5 : H[5]? = some (.inl (0, 640, .inl a5))) (u_2 : H[2]? = some (.inl (0, 64, .inl a2))) (u_0 : H[0]? = some (oO)) (u_66 : H[66]? = some (.inl (1, 1, .inr (.inl a66)))) {x : (Int32 × Bool × Int32 × Int32 × Int32 × (Nat → Int32) × (Nat → Int32) × (Nat → Int32) × (Nat → Int64))} (h : q_L_type x1 x2 c1_1 c3_1 c3_2 c4_0 a6 a5 a2 a66 = some x) : ∃ H' : List xE, Cm S (d + 4) 266 [.ref 0, .int x1, .int x2, .ref 66] (H, z) (.inr (some (.int x.1)), (H', zX x.2.1 z)) ∧ H'[1]? = some (.inr (4, [.ref 2, .int x.2.2.1])) ∧ H'[3]? = some (.inr (2, [.ref 4, .int x.2.2.2.1, .int x.2.2.2.2.1])) ∧ H'[6]? = some (.inl (0, 10, .inl x.2.2.2.2.2.1)) ∧ H'[5]? = some (.inl (0, 640, .inl x.2.2.2.2.2.2.1)) ∧ H'[2]? = some (.inl (0, 64, .inl x.2.2.2.2.2.2.2.1)) ∧ H'[66]? = some (.inl (1, 1, .inr (.inl x.2.2.2.2.2.2.2.2))) ∧ xfr [1, 3, 6, 5, 2, 66] H H' := by
  have G : Go S (d + 4) 266 (0, [some (.ref 0), some (.int x1), some (.int x2), some (.ref 66), none], []) (H, z) (fun _ _ => False) (fun r => ∃ H' : List xE, r = (.inr (some (.int x.1)), (H', zX x.2.1 z)) ∧ H'[1]? = some (.inr (4, [.ref 2, .int x.2.2.1])) ∧ H'[3]? = some (.inr (2, [.ref 4, .int x.2.2.2.1, .int x.2.2.2.2.1])) ∧ H'[6]? = some (.inl (0, 10, .inl x.2.2.2.2.2.1)) ∧ H'[5]? = some (.inl (0, 640, .inl x.2.2.2.2.2.2.1)) ∧ H'[2]? = some (.inl (0, 64, .inl x.2.2.2.2.2.2.2.1)) ∧ H'[66]? = some (.inl (1, 1, .inr (.inl x.2.2.2.2.2.2.2.2))) ∧ xfr [1, 3, 6, 5, 2, 66] H H') := by
    unfold q_L_type at h
    refine go_step (fun _ => ev_run 5 (F' := (5, [some (.ref 0), some (.int x1), some (.int x2), some (.ref 66), none], [.int x2, .int x1, .ref 0, .int (0 : Int32), .ref 66])) rfl) ?_
    rcases okx h with ⟨e2, y1, hy1, h⟩ | ⟨v3, y4, hy4, h⟩
    · skip
      obtain ⟨H5, hCH5, eH5_1, eH5_3, eH5_6, eH5_5, eH5_2, fH5⟩ := C_X11_type (S := S) (d := d) (z := z) (x1 := x1) (x2 := x2) u_0 u_1 u_3 u_4 u_6 u_5 u_2 hy1
      by_cases s0 : e2 = 0
      · have h := (if_pos s0).symm.trans h
        subst s0
        refine go_step (F1 := (15, [some (.ref 0), some (.int x1), some (.int x2), some (.ref 66), none], [])) (M1 := (H5, (false, z.2.1 + 1, z.2.2 + 6))) (fun _ => ev_callVC (x := (.invokevirtual 7, 3, 104, 10, 525, .null)) (as := [.int x1, .int x2]) (rest := [.int (0 : Int32), .ref 66]) rfl rfl u_0 rfl rfl hCH5 rfl) ?_
        refine go_step (fun _ => ev_run 1 (F' := (16, [some (.ref 0), some (.int x1), some (.int x2), some (.ref 66), none], [.int (1 : Int32)])) rfl) ?_
        cases h
        exact Or.inr ⟨_, ev_ret rfl rfl rfl rfl, H5, rfl, eH5_1, eH5_3, eH5_6, eH5_5, eH5_2, ((fH5 66 rfl).trans u_66), (xfr_t xfr_refl rfl fH5)⟩
      · have h := (if_neg s0).symm.trans h
        by_cases s1 : e2 = 1
        · have h := (if_pos s1).symm.trans h
          subst s1
          refine go_step (F1 := (19, [some (.ref 0), some (.int x1), some (.int x2), some (.ref 66), none], [])) (M1 := (H5, (false, z.2.1 + 1, z.2.2 + 6))) (fun _ => ev_callVC (x := (.invokevirtual 7, 3, 104, 10, 525, .null)) (as := [.int x1, .int x2]) (rest := [.int (0 : Int32), .ref 66]) rfl rfl u_0 rfl rfl hCH5 rfl) ?_
          refine go_step (fun _ => ev_run 1 (F' := (20, [some (.ref 0), some (.int x1), some (.int x2), some (.ref 66), none], [.int (2 : Int32)])) rfl) ?_
          cases h
          exact Or.inr ⟨_, ev_ret rfl rfl rfl rfl, H5, rfl, eH5_1, eH5_3, eH5_6, eH5_5, eH5_2, ((fH5 66 rfl).trans u_66), (xfr_t xfr_refl rfl fH5)⟩
        · have h := (if_neg s1).symm.trans h
          cases h
    · skip
      obtain ⟨H6, hCH6, eH6_1, eH6_3, eH6_6, eH6_5, eH6_2, fH6⟩ := C_X11_type (S := S) (d := d) (z := z) (x1 := x1) (x2 := x2) u_0 u_1 u_3 u_4 u_6 u_5 u_2 hy4
      refine go_step (F1 := (8, [some (.ref 0), some (.int x1), some (.int x2), some (.ref 66), none], [.int v3, .int (0 : Int32), .ref 66])) (M1 := (H6, z)) (fun _ => ev_callV (x := (.invokevirtual 7, 3, 104, 10, 525, .null)) (as := [.int x1, .int x2]) (rest := [.int (0 : Int32), .ref 66]) rfl rfl u_0 hCH6 rfl) ?_
      refine go_step (fun _ => ev_run 1 (F' := (9, [some (.ref 0), some (.int x1), some (.int x2), some (.ref 66), none], [.long (v3.toInt64), .int (0 : Int32), .ref 66])) rfl) ?_
      refine go_last rfl ((fH6 66 rfl).trans u_66) rfl (fun H7 (eH7 : H7[66]? = some (.inl (1, 1, .inr (.inl (vp_updL a66 (0 : Int32).toNatClampNeg (v3.toInt64)))))) fH7 => ?_)
      refine go_step (fun _ => ev_run 2 (F' := (22, [some (.ref 0), some (.int x1), some (.int x2), some (.ref 66), none], [.int (0 : Int32)])) rfl) ?_
      cases h
      exact Or.inr ⟨_, ev_ret rfl rfl rfl rfl, H7, rfl, ((fH7 1 rfl).trans eH6_1), ((fH7 3 rfl).trans eH6_3), ((fH7 6 rfl).trans eH6_6), ((fH7 5 rfl).trans eH6_5), ((fH7 2 rfl).trans eH6_2), eH7, (xfr_t (xfr_t xfr_refl rfl fH6) rfl fH7)⟩
  obtain ⟨_, hE, H', rfl, hrest⟩ := go_end G
  exact ⟨H', hE, hrest⟩
def q_L_byteAt (x1 : Int32) (c1_1 : Int32) (a2 : Nat → Int32) (a66 : Nat → Int64) : Option (Int32 × Bool × (Nat → Int64)) := (xbnd (q_X11_byteAt x1 c1_1 a2) (fun e2 y1 => (if e2 = 2 then (some ((1 : Int32), true, a66)) else none)) (fun v3 y4 => (some ((0 : Int32), false, (vp_updL a66 (0 : Int32).toNatClampNeg (v3.toInt64))))))
theorem C_L_byteAt {S : Nat × (Nat → Int32)} {d : Nat} {H : List xE} {z : Bool × Nat × Nat} {c1_1 : Int32} {a2 : Nat → Int32} {a66 : Nat → Int64} {x1 : Int32} (u_1 : H[1]? = some (.inr (4, [.ref 2, .int c1_1]))) (u_2 : H[2]? = some (.inl (0, 64, .inl a2))) (u_0 : H[0]? = some (oO)) (u_66 : H[66]? = some (.inl (1, 1, .inr (.inl a66)))) {x : (Int32 × Bool × (Nat → Int64))} (h : q_L_byteAt x1 c1_1 a2 a66 = some x) : ∃ H' : List xE, Cm S (d + 3) 267 [.ref 0, .int x1, .ref 66] (H, z) (.inr (some (.int x.1)), (H', zX x.2.1 z)) ∧ H'[66]? = some (.inl (1, 1, .inr (.inl x.2.2))) ∧ xfr [66] H H' := by
  have G : Go S (d + 3) 267 (0, [some (.ref 0), some (.int x1), some (.ref 66), none], []) (H, z) (fun _ _ => False) (fun r => ∃ H' : List xE, r = (.inr (some (.int x.1)), (H', zX x.2.1 z)) ∧ H'[66]? = some (.inl (1, 1, .inr (.inl x.2.2))) ∧ xfr [66] H H') := by
    unfold q_L_byteAt at h
    refine go_step (fun _ => ev_run 4 (F' := (4, [some (.ref 0), some (.int x1), some (.ref 66), none], [.int x1, .ref 0, .int (0 : Int32), .ref 66])) rfl) ?_
    rcases okx h with ⟨e2, y1, hy1, h⟩ | ⟨v3, y4, hy4, h⟩
    · skip
      by_cases s2 : e2 = 2
      · have h := (if_pos s2).symm.trans h
        subst s2
        refine go_step (F1 := (13, [some (.ref 0), some (.int x1), some (.ref 66), none], [])) (M1 := (H, (false, z.2.1 + 1, z.2.2 + 6))) (fun _ => ev_callVC (x := (.invokevirtual 17, 3, 105, 10, 652, .null)) (as := [.int x1]) (rest := [.int (0 : Int32), .ref 66]) rfl rfl u_0 rfl rfl (C_X11_byteAt (S := S) (d := d) (z := z) (x1 := x1) u_1 u_0 u_2 hy1) rfl) ?_
        refine go_step (fun _ => ev_run 1 (F' := (14, [some (.ref 0), some (.int x1), some (.ref 66), none], [.int (1 : Int32)])) rfl) ?_
        cases h
        exact Or.inr ⟨_, ev_ret rfl rfl rfl rfl, H, rfl, u_66, xfr_refl⟩
      · have h := (if_neg s2).symm.trans h
        cases h
    · skip
      refine go_step (F1 := (7, [some (.ref 0), some (.int x1), some (.ref 66), none], [.int v3, .int (0 : Int32), .ref 66])) (M1 := (H, z)) (fun _ => ev_callV (x := (.invokevirtual 17, 3, 105, 10, 652, .null)) (as := [.int x1]) (rest := [.int (0 : Int32), .ref 66]) rfl rfl u_0 (C_X11_byteAt (S := S) (d := d) (z := z) (x1 := x1) u_1 u_0 u_2 hy4) rfl) ?_
      refine go_step (fun _ => ev_run 1 (F' := (8, [some (.ref 0), some (.int x1), some (.ref 66), none], [.long (v3.toInt64), .int (0 : Int32), .ref 66])) rfl) ?_
      refine go_last rfl u_66 rfl (fun H5 (eH5 : H5[66]? = some (.inl (1, 1, .inr (.inl (vp_updL a66 (0 : Int32).toNatClampNeg (v3.toInt64)))))) fH5 => ?_)
      refine go_step (fun _ => ev_run 2 (F' := (16, [some (.ref 0), some (.int x1), some (.ref 66), none], [.int (0 : Int32)])) rfl) ?_
      cases h
      exact Or.inr ⟨_, ev_ret rfl rfl rfl rfl, H5, rfl, eH5, (xfr_t xfr_refl rfl fH5)⟩
  obtain ⟨_, hE, H', rfl, hrest⟩ := go_end G
  exact ⟨H', hE, hrest⟩
def q_L_put (x1 : Int32) (x2 : Int32) (c1_1 : Int32) (c3_1 : Int32) (c3_2 : Int32) (c4_0 : Int32) (a6 : Nat → Int32) (a5 : Nat → Int32) (a2 : Nat → Int32) (a66 : Nat → Int64) : Option (Int32 × Bool × Int32 × Int32 × (Nat → Int32) × (Nat → Int32) × (Nat → Int32) × (Nat → Int64)) := (xbnd (q_X11_put x1 x2 c1_1 c3_1 c3_2 c4_0 a6 a5 a2) (fun e2 y1 => (if e2 = 2 then (some ((1 : Int32), true, y1.1, y1.2.1, y1.2.2.1, y1.2.2.2.1, y1.2.2.2.2, a66)) else if e2 = 0 then (some ((2 : Int32), true, y1.1, y1.2.1, y1.2.2.1, y1.2.2.2.1, y1.2.2.2.2, a66)) else none)) (fun v3 y4 => (some ((0 : Int32), false, y4.1, y4.2.1, y4.2.2.1, y4.2.2.2.1, y4.2.2.2.2, (vp_updL a66 (0 : Int32).toNatClampNeg (v3.toInt64))))))
theorem C_L_put {S : Nat × (Nat → Int32)} {d : Nat} {H : List xE} {z : Bool × Nat × Nat} {c1_1 : Int32} {c3_1 : Int32} {c3_2 : Int32} {c4_0 : Int32} {a6 : Nat → Int32} {a5 : Nat → Int32} {a2 : Nat → Int32} {a66 : Nat → Int64} {x1 : Int32} {x2 : Int32} (u_1 : H[1]? = some (.inr (4, [.ref 2, .int c1_1]))) (u_3 : H[3]? = some (.inr (2, [.ref 4, .int c3_1, .int c3_2]))) (u_4 : H[4]? = some (.inr (7, [.int c4_0, .ref 5, .ref 6]))) (u_6 : H[6]? = some (.inl (0, 10, .inl a6))) (u_5 : H[5]? = some (.inl (0, 640, .inl a5))) (u_2 : H[2]? = some (.inl (0, 64, .inl a2))) (u_0 : H[0]? = some (oO)) (u_66 : H[66]? = some (.inl (1, 1, .inr (.inl a66)))) {x : (Int32 × Bool × Int32 × Int32 × (Nat → Int32) × (Nat → Int32) × (Nat → Int32) × (Nat → Int64))} (h : q_L_put x1 x2 c1_1 c3_1 c3_2 c4_0 a6 a5 a2 a66 = some x) : ∃ H' : List xE, Cm S (d + 4) 268 [.ref 0, .int x1, .int x2, .ref 66] (H, z) (.inr (some (.int x.1)), (H', zX x.2.1 z)) ∧ H'[3]? = some (.inr (2, [.ref 4, .int x.2.2.1, .int x.2.2.2.1])) ∧ H'[6]? = some (.inl (0, 10, .inl x.2.2.2.2.1)) ∧ H'[5]? = some (.inl (0, 640, .inl x.2.2.2.2.2.1)) ∧ H'[2]? = some (.inl (0, 64, .inl x.2.2.2.2.2.2.1)) ∧ H'[66]? = some (.inl (1, 1, .inr (.inl x.2.2.2.2.2.2.2))) ∧ xfr [3, 6, 5, 2, 66] H H' := by
  have G : Go S (d + 4) 268 (0, [some (.ref 0), some (.int x1), some (.int x2), some (.ref 66), none], []) (H, z) (fun _ _ => False) (fun r => ∃ H' : List xE, r = (.inr (some (.int x.1)), (H', zX x.2.1 z)) ∧ H'[3]? = some (.inr (2, [.ref 4, .int x.2.2.1, .int x.2.2.2.1])) ∧ H'[6]? = some (.inl (0, 10, .inl x.2.2.2.2.1)) ∧ H'[5]? = some (.inl (0, 640, .inl x.2.2.2.2.2.1)) ∧ H'[2]? = some (.inl (0, 64, .inl x.2.2.2.2.2.2.1)) ∧ H'[66]? = some (.inl (1, 1, .inr (.inl x.2.2.2.2.2.2.2))) ∧ xfr [3, 6, 5, 2, 66] H H') := by
    unfold q_L_put at h
    refine go_step (fun _ => ev_run 5 (F' := (5, [some (.ref 0), some (.int x1), some (.int x2), some (.ref 66), none], [.int x2, .int x1, .ref 0, .int (0 : Int32), .ref 66])) rfl) ?_
    rcases okx h with ⟨e2, y1, hy1, h⟩ | ⟨v3, y4, hy4, h⟩
    · skip
      obtain ⟨H5, hCH5, eH5_3, eH5_6, eH5_5, eH5_2, fH5⟩ := C_X11_put (S := S) (d := d) (z := z) (x1 := x1) (x2 := x2) u_1 u_0 u_3 u_4 u_6 u_5 u_2 hy1
      by_cases s2 : e2 = 2
      · have h := (if_pos s2).symm.trans h
        subst s2
        refine go_step (F1 := (15, [some (.ref 0), some (.int x1), some (.int x2), some (.ref 66), none], [])) (M1 := (H5, (false, z.2.1 + 1, z.2.2 + 6))) (fun _ => ev_callVC (x := (.invokevirtual 23, 3, 106, 10, 680, .null)) (as := [.int x1, .int x2]) (rest := [.int (0 : Int32), .ref 66]) rfl rfl u_0 rfl rfl hCH5 rfl) ?_
        refine go_step (fun _ => ev_run 1 (F' := (16, [some (.ref 0), some (.int x1), some (.int x2), some (.ref 66), none], [.int (1 : Int32)])) rfl) ?_
        cases h
        exact Or.inr ⟨_, ev_ret rfl rfl rfl rfl, H5, rfl, eH5_3, eH5_6, eH5_5, eH5_2, ((fH5 66 rfl).trans u_66), (xfr_t xfr_refl rfl fH5)⟩
      · have h := (if_neg s2).symm.trans h
        by_cases s0 : e2 = 0
        · have h := (if_pos s0).symm.trans h
          subst s0
          refine go_step (F1 := (19, [some (.ref 0), some (.int x1), some (.int x2), some (.ref 66), none], [])) (M1 := (H5, (false, z.2.1 + 1, z.2.2 + 6))) (fun _ => ev_callVC (x := (.invokevirtual 23, 3, 106, 10, 680, .null)) (as := [.int x1, .int x2]) (rest := [.int (0 : Int32), .ref 66]) rfl rfl u_0 rfl rfl hCH5 rfl) ?_
          refine go_step (fun _ => ev_run 1 (F' := (20, [some (.ref 0), some (.int x1), some (.int x2), some (.ref 66), none], [.int (2 : Int32)])) rfl) ?_
          cases h
          exact Or.inr ⟨_, ev_ret rfl rfl rfl rfl, H5, rfl, eH5_3, eH5_6, eH5_5, eH5_2, ((fH5 66 rfl).trans u_66), (xfr_t xfr_refl rfl fH5)⟩
        · have h := (if_neg s0).symm.trans h
          cases h
    · skip
      obtain ⟨H6, hCH6, eH6_3, eH6_6, eH6_5, eH6_2, fH6⟩ := C_X11_put (S := S) (d := d) (z := z) (x1 := x1) (x2 := x2) u_1 u_0 u_3 u_4 u_6 u_5 u_2 hy4
      refine go_step (F1 := (8, [some (.ref 0), some (.int x1), some (.int x2), some (.ref 66), none], [.int v3, .int (0 : Int32), .ref 66])) (M1 := (H6, z)) (fun _ => ev_callV (x := (.invokevirtual 23, 3, 106, 10, 680, .null)) (as := [.int x1, .int x2]) (rest := [.int (0 : Int32), .ref 66]) rfl rfl u_0 hCH6 rfl) ?_
      refine go_step (fun _ => ev_run 1 (F' := (9, [some (.ref 0), some (.int x1), some (.int x2), some (.ref 66), none], [.long (v3.toInt64), .int (0 : Int32), .ref 66])) rfl) ?_
      refine go_last rfl ((fH6 66 rfl).trans u_66) rfl (fun H7 (eH7 : H7[66]? = some (.inl (1, 1, .inr (.inl (vp_updL a66 (0 : Int32).toNatClampNeg (v3.toInt64)))))) fH7 => ?_)
      refine go_step (fun _ => ev_run 2 (F' := (22, [some (.ref 0), some (.int x1), some (.int x2), some (.ref 66), none], [.int (0 : Int32)])) rfl) ?_
      cases h
      exact Or.inr ⟨_, ev_ret rfl rfl rfl rfl, H7, rfl, ((fH7 3 rfl).trans eH6_3), ((fH7 6 rfl).trans eH6_6), ((fH7 5 rfl).trans eH6_5), ((fH7 2 rfl).trans eH6_2), eH7, (xfr_t (xfr_t xfr_refl rfl fH6) rfl fH7)⟩
  obtain ⟨_, hE, H', rfl, hrest⟩ := go_end G
  exact ⟨H', hE, hrest⟩
def q_L_insert (x1 : Int32) (x2 : Int32) (c1_1 : Int32) (c3_1 : Int32) (c3_2 : Int32) (c4_0 : Int32) (a6 : Nat → Int32) (a5 : Nat → Int32) (a2 : Nat → Int32) (a66 : Nat → Int64) : Option (Int32 × Bool × Int32 × Int32 × Int32 × (Nat → Int32) × (Nat → Int32) × (Nat → Int32) × (Nat → Int64)) := (xbnd (q_X11_insert x1 x2 c1_1 c3_1 c3_2 c4_0 a6 a5 a2) (fun e2 y1 => (if e2 = 2 then (some ((1 : Int32), true, y1.1, y1.2.1, y1.2.2.1, y1.2.2.2.1, y1.2.2.2.2.1, y1.2.2.2.2.2, a66)) else if e2 = 0 then (some ((2 : Int32), true, y1.1, y1.2.1, y1.2.2.1, y1.2.2.2.1, y1.2.2.2.2.1, y1.2.2.2.2.2, a66)) else if e2 = 1 then (some ((3 : Int32), true, y1.1, y1.2.1, y1.2.2.1, y1.2.2.2.1, y1.2.2.2.2.1, y1.2.2.2.2.2, a66)) else none)) (fun v3 y4 => (some ((0 : Int32), false, y4.1, y4.2.1, y4.2.2.1, y4.2.2.2.1, y4.2.2.2.2.1, y4.2.2.2.2.2, (vp_updL a66 (0 : Int32).toNatClampNeg (v3.toInt64))))))
theorem C_L_insert {S : Nat × (Nat → Int32)} {d : Nat} {H : List xE} {z : Bool × Nat × Nat} {c1_1 : Int32} {c3_1 : Int32} {c3_2 : Int32} {c4_0 : Int32} {a6 : Nat → Int32} {a5 : Nat → Int32} {a2 : Nat → Int32} {a66 : Nat → Int64} {x1 : Int32} {x2 : Int32} (u_1 : H[1]? = some (.inr (4, [.ref 2, .int c1_1]))) (u_3 : H[3]? = some (.inr (2, [.ref 4, .int c3_1, .int c3_2]))) (u_4 : H[4]? = some (.inr (7, [.int c4_0, .ref 5, .ref 6]))) (u_6 : H[6]? = some (.inl (0, 10, .inl a6))) (u_5 : H[5]? = some (.inl (0, 640, .inl a5))) (u_2 : H[2]? = some (.inl (0, 64, .inl a2))) (u_0 : H[0]? = some (oO)) (u_66 : H[66]? = some (.inl (1, 1, .inr (.inl a66)))) {x : (Int32 × Bool × Int32 × Int32 × Int32 × (Nat → Int32) × (Nat → Int32) × (Nat → Int32) × (Nat → Int64))} (h : q_L_insert x1 x2 c1_1 c3_1 c3_2 c4_0 a6 a5 a2 a66 = some x) : ∃ H' : List xE, Cm S (d + 4) 269 [.ref 0, .int x1, .int x2, .ref 66] (H, z) (.inr (some (.int x.1)), (H', zX x.2.1 z)) ∧ H'[1]? = some (.inr (4, [.ref 2, .int x.2.2.1])) ∧ H'[3]? = some (.inr (2, [.ref 4, .int x.2.2.2.1, .int x.2.2.2.2.1])) ∧ H'[6]? = some (.inl (0, 10, .inl x.2.2.2.2.2.1)) ∧ H'[5]? = some (.inl (0, 640, .inl x.2.2.2.2.2.2.1)) ∧ H'[2]? = some (.inl (0, 64, .inl x.2.2.2.2.2.2.2.1)) ∧ H'[66]? = some (.inl (1, 1, .inr (.inl x.2.2.2.2.2.2.2.2))) ∧ xfr [1, 3, 6, 5, 2, 66] H H' := by
  have G : Go S (d + 4) 269 (0, [some (.ref 0), some (.int x1), some (.int x2), some (.ref 66), none], []) (H, z) (fun _ _ => False) (fun r => ∃ H' : List xE, r = (.inr (some (.int x.1)), (H', zX x.2.1 z)) ∧ H'[1]? = some (.inr (4, [.ref 2, .int x.2.2.1])) ∧ H'[3]? = some (.inr (2, [.ref 4, .int x.2.2.2.1, .int x.2.2.2.2.1])) ∧ H'[6]? = some (.inl (0, 10, .inl x.2.2.2.2.2.1)) ∧ H'[5]? = some (.inl (0, 640, .inl x.2.2.2.2.2.2.1)) ∧ H'[2]? = some (.inl (0, 64, .inl x.2.2.2.2.2.2.2.1)) ∧ H'[66]? = some (.inl (1, 1, .inr (.inl x.2.2.2.2.2.2.2.2))) ∧ xfr [1, 3, 6, 5, 2, 66] H H') := by
    unfold q_L_insert at h
    refine go_step (fun _ => ev_run 5 (F' := (5, [some (.ref 0), some (.int x1), some (.int x2), some (.ref 66), none], [.int x2, .int x1, .ref 0, .int (0 : Int32), .ref 66])) rfl) ?_
    rcases okx h with ⟨e2, y1, hy1, h⟩ | ⟨v3, y4, hy4, h⟩
    · skip
      obtain ⟨H5, hCH5, eH5_1, eH5_3, eH5_6, eH5_5, eH5_2, fH5⟩ := C_X11_insert (S := S) (d := d) (z := z) (x1 := x1) (x2 := x2) u_1 u_0 u_3 u_4 u_6 u_5 u_2 hy1
      by_cases s2 : e2 = 2
      · have h := (if_pos s2).symm.trans h
        subst s2
        refine go_step (F1 := (15, [some (.ref 0), some (.int x1), some (.int x2), some (.ref 66), none], [])) (M1 := (H5, (false, z.2.1 + 1, z.2.2 + 6))) (fun _ => ev_callVC (x := (.invokevirtual 26, 3, 107, 10, 692, .null)) (as := [.int x1, .int x2]) (rest := [.int (0 : Int32), .ref 66]) rfl rfl u_0 rfl rfl hCH5 rfl) ?_
        refine go_step (fun _ => ev_run 1 (F' := (16, [some (.ref 0), some (.int x1), some (.int x2), some (.ref 66), none], [.int (1 : Int32)])) rfl) ?_
        cases h
        exact Or.inr ⟨_, ev_ret rfl rfl rfl rfl, H5, rfl, eH5_1, eH5_3, eH5_6, eH5_5, eH5_2, ((fH5 66 rfl).trans u_66), (xfr_t xfr_refl rfl fH5)⟩
      · have h := (if_neg s2).symm.trans h
        by_cases s0 : e2 = 0
        · have h := (if_pos s0).symm.trans h
          subst s0
          refine go_step (F1 := (19, [some (.ref 0), some (.int x1), some (.int x2), some (.ref 66), none], [])) (M1 := (H5, (false, z.2.1 + 1, z.2.2 + 6))) (fun _ => ev_callVC (x := (.invokevirtual 26, 3, 107, 10, 692, .null)) (as := [.int x1, .int x2]) (rest := [.int (0 : Int32), .ref 66]) rfl rfl u_0 rfl rfl hCH5 rfl) ?_
          refine go_step (fun _ => ev_run 1 (F' := (20, [some (.ref 0), some (.int x1), some (.int x2), some (.ref 66), none], [.int (2 : Int32)])) rfl) ?_
          cases h
          exact Or.inr ⟨_, ev_ret rfl rfl rfl rfl, H5, rfl, eH5_1, eH5_3, eH5_6, eH5_5, eH5_2, ((fH5 66 rfl).trans u_66), (xfr_t xfr_refl rfl fH5)⟩
        · have h := (if_neg s0).symm.trans h
          by_cases s1 : e2 = 1
          · have h := (if_pos s1).symm.trans h
            subst s1
            refine go_step (F1 := (23, [some (.ref 0), some (.int x1), some (.int x2), some (.ref 66), none], [])) (M1 := (H5, (false, z.2.1 + 1, z.2.2 + 6))) (fun _ => ev_callVC (x := (.invokevirtual 26, 3, 107, 10, 692, .null)) (as := [.int x1, .int x2]) (rest := [.int (0 : Int32), .ref 66]) rfl rfl u_0 rfl rfl hCH5 rfl) ?_
            refine go_step (fun _ => ev_run 1 (F' := (24, [some (.ref 0), some (.int x1), some (.int x2), some (.ref 66), none], [.int (3 : Int32)])) rfl) ?_
            cases h
            exact Or.inr ⟨_, ev_ret rfl rfl rfl rfl, H5, rfl, eH5_1, eH5_3, eH5_6, eH5_5, eH5_2, ((fH5 66 rfl).trans u_66), (xfr_t xfr_refl rfl fH5)⟩
          · have h := (if_neg s1).symm.trans h
            cases h
    · skip
      obtain ⟨H6, hCH6, eH6_1, eH6_3, eH6_6, eH6_5, eH6_2, fH6⟩ := C_X11_insert (S := S) (d := d) (z := z) (x1 := x1) (x2 := x2) u_1 u_0 u_3 u_4 u_6 u_5 u_2 hy4
      refine go_step (F1 := (8, [some (.ref 0), some (.int x1), some (.int x2), some (.ref 66), none], [.int v3, .int (0 : Int32), .ref 66])) (M1 := (H6, z)) (fun _ => ev_callV (x := (.invokevirtual 26, 3, 107, 10, 692, .null)) (as := [.int x1, .int x2]) (rest := [.int (0 : Int32), .ref 66]) rfl rfl u_0 hCH6 rfl) ?_
      refine go_step (fun _ => ev_run 1 (F' := (9, [some (.ref 0), some (.int x1), some (.int x2), some (.ref 66), none], [.long (v3.toInt64), .int (0 : Int32), .ref 66])) rfl) ?_
      refine go_last rfl ((fH6 66 rfl).trans u_66) rfl (fun H7 (eH7 : H7[66]? = some (.inl (1, 1, .inr (.inl (vp_updL a66 (0 : Int32).toNatClampNeg (v3.toInt64)))))) fH7 => ?_)
      refine go_step (fun _ => ev_run 2 (F' := (26, [some (.ref 0), some (.int x1), some (.int x2), some (.ref 66), none], [.int (0 : Int32)])) rfl) ?_
      cases h
      exact Or.inr ⟨_, ev_ret rfl rfl rfl rfl, H7, rfl, ((fH7 1 rfl).trans eH6_1), ((fH7 3 rfl).trans eH6_3), ((fH7 6 rfl).trans eH6_6), ((fH7 5 rfl).trans eH6_5), ((fH7 2 rfl).trans eH6_2), eH7, (xfr_t (xfr_t xfr_refl rfl fH6) rfl fH7)⟩
  obtain ⟨_, hE, H', rfl, hrest⟩ := go_end G
  exact ⟨H', hE, hrest⟩
def q_L_drop (x1 : Int32) (c1_1 : Int32) (c3_1 : Int32) (c3_2 : Int32) (c4_0 : Int32) (a6 : Nat → Int32) (a5 : Nat → Int32) (a2 : Nat → Int32) (a66 : Nat → Int64) : Option (Int32 × Bool × Int32 × Int32 × Int32 × (Nat → Int32) × (Nat → Int32) × (Nat → Int32) × (Nat → Int64)) := (xbnd (q_X11_drop x1 c1_1 c3_1 c3_2 c4_0 a6 a5 a2) (fun e2 y1 => (if e2 = 2 then (some ((1 : Int32), true, y1.1, y1.2.1, y1.2.2.1, y1.2.2.2.1, y1.2.2.2.2.1, y1.2.2.2.2.2, a66)) else none)) (fun v3 y4 => (some ((0 : Int32), false, y4.1, y4.2.1, y4.2.2.1, y4.2.2.2.1, y4.2.2.2.2.1, y4.2.2.2.2.2, (vp_updL a66 (0 : Int32).toNatClampNeg (v3.toInt64))))))
theorem C_L_drop {S : Nat × (Nat → Int32)} {d : Nat} {H : List xE} {z : Bool × Nat × Nat} {c1_1 : Int32} {c3_1 : Int32} {c3_2 : Int32} {c4_0 : Int32} {a6 : Nat → Int32} {a5 : Nat → Int32} {a2 : Nat → Int32} {a66 : Nat → Int64} {x1 : Int32} (u_1 : H[1]? = some (.inr (4, [.ref 2, .int c1_1]))) (u_3 : H[3]? = some (.inr (2, [.ref 4, .int c3_1, .int c3_2]))) (u_4 : H[4]? = some (.inr (7, [.int c4_0, .ref 5, .ref 6]))) (u_6 : H[6]? = some (.inl (0, 10, .inl a6))) (u_5 : H[5]? = some (.inl (0, 640, .inl a5))) (u_2 : H[2]? = some (.inl (0, 64, .inl a2))) (u_0 : H[0]? = some (oO)) (u_66 : H[66]? = some (.inl (1, 1, .inr (.inl a66)))) {x : (Int32 × Bool × Int32 × Int32 × Int32 × (Nat → Int32) × (Nat → Int32) × (Nat → Int32) × (Nat → Int64))} (h : q_L_drop x1 c1_1 c3_1 c3_2 c4_0 a6 a5 a2 a66 = some x) : ∃ H' : List xE, Cm S (d + 4) 270 [.ref 0, .int x1, .ref 66] (H, z) (.inr (some (.int x.1)), (H', zX x.2.1 z)) ∧ H'[1]? = some (.inr (4, [.ref 2, .int x.2.2.1])) ∧ H'[3]? = some (.inr (2, [.ref 4, .int x.2.2.2.1, .int x.2.2.2.2.1])) ∧ H'[6]? = some (.inl (0, 10, .inl x.2.2.2.2.2.1)) ∧ H'[5]? = some (.inl (0, 640, .inl x.2.2.2.2.2.2.1)) ∧ H'[2]? = some (.inl (0, 64, .inl x.2.2.2.2.2.2.2.1)) ∧ H'[66]? = some (.inl (1, 1, .inr (.inl x.2.2.2.2.2.2.2.2))) ∧ xfr [1, 3, 6, 5, 2, 66] H H' := by
  have G : Go S (d + 4) 270 (0, [some (.ref 0), some (.int x1), some (.ref 66), none], []) (H, z) (fun _ _ => False) (fun r => ∃ H' : List xE, r = (.inr (some (.int x.1)), (H', zX x.2.1 z)) ∧ H'[1]? = some (.inr (4, [.ref 2, .int x.2.2.1])) ∧ H'[3]? = some (.inr (2, [.ref 4, .int x.2.2.2.1, .int x.2.2.2.2.1])) ∧ H'[6]? = some (.inl (0, 10, .inl x.2.2.2.2.2.1)) ∧ H'[5]? = some (.inl (0, 640, .inl x.2.2.2.2.2.2.1)) ∧ H'[2]? = some (.inl (0, 64, .inl x.2.2.2.2.2.2.2.1)) ∧ H'[66]? = some (.inl (1, 1, .inr (.inl x.2.2.2.2.2.2.2.2))) ∧ xfr [1, 3, 6, 5, 2, 66] H H') := by
    unfold q_L_drop at h
    refine go_step (fun _ => ev_run 4 (F' := (4, [some (.ref 0), some (.int x1), some (.ref 66), none], [.int x1, .ref 0, .int (0 : Int32), .ref 66])) rfl) ?_
    rcases okx h with ⟨e2, y1, hy1, h⟩ | ⟨v3, y4, hy4, h⟩
    · skip
      obtain ⟨H5, hCH5, eH5_1, eH5_3, eH5_6, eH5_5, eH5_2, fH5⟩ := C_X11_drop (S := S) (d := d) (z := z) (x1 := x1) u_1 u_0 u_3 u_4 u_6 u_5 u_2 hy1
      by_cases s2 : e2 = 2
      · have h := (if_pos s2).symm.trans h
        subst s2
        refine go_step (F1 := (13, [some (.ref 0), some (.int x1), some (.ref 66), none], [])) (M1 := (H5, (false, z.2.1 + 1, z.2.2 + 6))) (fun _ => ev_callVC (x := (.invokevirtual 29, 3, 108, 10, 705, .null)) (as := [.int x1]) (rest := [.int (0 : Int32), .ref 66]) rfl rfl u_0 rfl rfl hCH5 rfl) ?_
        refine go_step (fun _ => ev_run 1 (F' := (14, [some (.ref 0), some (.int x1), some (.ref 66), none], [.int (1 : Int32)])) rfl) ?_
        cases h
        exact Or.inr ⟨_, ev_ret rfl rfl rfl rfl, H5, rfl, eH5_1, eH5_3, eH5_6, eH5_5, eH5_2, ((fH5 66 rfl).trans u_66), (xfr_t xfr_refl rfl fH5)⟩
      · have h := (if_neg s2).symm.trans h
        cases h
    · skip
      obtain ⟨H6, hCH6, eH6_1, eH6_3, eH6_6, eH6_5, eH6_2, fH6⟩ := C_X11_drop (S := S) (d := d) (z := z) (x1 := x1) u_1 u_0 u_3 u_4 u_6 u_5 u_2 hy4
      refine go_step (F1 := (7, [some (.ref 0), some (.int x1), some (.ref 66), none], [.int v3, .int (0 : Int32), .ref 66])) (M1 := (H6, z)) (fun _ => ev_callV (x := (.invokevirtual 29, 3, 108, 10, 705, .null)) (as := [.int x1]) (rest := [.int (0 : Int32), .ref 66]) rfl rfl u_0 hCH6 rfl) ?_
      refine go_step (fun _ => ev_run 1 (F' := (8, [some (.ref 0), some (.int x1), some (.ref 66), none], [.long (v3.toInt64), .int (0 : Int32), .ref 66])) rfl) ?_
      refine go_last rfl ((fH6 66 rfl).trans u_66) rfl (fun H7 (eH7 : H7[66]? = some (.inl (1, 1, .inr (.inl (vp_updL a66 (0 : Int32).toNatClampNeg (v3.toInt64)))))) fH7 => ?_)
      refine go_step (fun _ => ev_run 2 (F' := (16, [some (.ref 0), some (.int x1), some (.ref 66), none], [.int (0 : Int32)])) rfl) ?_
      cases h
      exact Or.inr ⟨_, ev_ret rfl rfl rfl rfl, H7, rfl, ((fH7 1 rfl).trans eH6_1), ((fH7 3 rfl).trans eH6_3), ((fH7 6 rfl).trans eH6_6), ((fH7 5 rfl).trans eH6_5), ((fH7 2 rfl).trans eH6_2), eH7, (xfr_t (xfr_t xfr_refl rfl fH6) rfl fH7)⟩
  obtain ⟨_, hE, H', rfl, hrest⟩ := go_end G
  exact ⟨H', hE, hrest⟩
def q_L_undo (c3_1 : Int32) (c3_2 : Int32) (c4_0 : Int32) (a6 : Nat → Int32) (a5 : Nat → Int32) (a2 : Nat → Int32) (c1_1 : Int32) (a66 : Nat → Int64) : Option (Int32 × Bool × Int32 × Int32 × (Nat → Int32) × Int32 × (Nat → Int64)) := (xbnd (q_X11_undo c3_1 c3_2 c4_0 a6 a5 a2 c1_1) (fun e2 y1 => (if e2 = 3 then (some ((1 : Int32), true, y1.1, y1.2.1, y1.2.2.1, y1.2.2.2, a66)) else none)) (fun v3 y4 => (some ((0 : Int32), false, y4.1, y4.2.1, y4.2.2.1, y4.2.2.2, (vp_updL a66 (0 : Int32).toNatClampNeg (v3.toInt64))))))
theorem C_L_undo {S : Nat × (Nat → Int32)} {d : Nat} {H : List xE} {z : Bool × Nat × Nat} {c3_1 : Int32} {c3_2 : Int32} {c4_0 : Int32} {a6 : Nat → Int32} {a5 : Nat → Int32} {a2 : Nat → Int32} {c1_1 : Int32} {a66 : Nat → Int64} (u_3 : H[3]? = some (.inr (2, [.ref 4, .int c3_1, .int c3_2]))) (u_4 : H[4]? = some (.inr (7, [.int c4_0, .ref 5, .ref 6]))) (u_6 : H[6]? = some (.inl (0, 10, .inl a6))) (u_5 : H[5]? = some (.inl (0, 640, .inl a5))) (u_2 : H[2]? = some (.inl (0, 64, .inl a2))) (u_1 : H[1]? = some (.inr (4, [.ref 2, .int c1_1]))) (u_0 : H[0]? = some (oO)) (u_66 : H[66]? = some (.inl (1, 1, .inr (.inl a66)))) {x : (Int32 × Bool × Int32 × Int32 × (Nat → Int32) × Int32 × (Nat → Int64))} (h : q_L_undo c3_1 c3_2 c4_0 a6 a5 a2 c1_1 a66 = some x) : ∃ H' : List xE, Cm S (d + 6) 271 [.ref 0, .ref 66] (H, z) (.inr (some (.int x.1)), (H', zX x.2.1 z)) ∧ H'[3]? = some (.inr (2, [.ref 4, .int x.2.2.1, .int x.2.2.2.1])) ∧ H'[2]? = some (.inl (0, 64, .inl x.2.2.2.2.1)) ∧ H'[1]? = some (.inr (4, [.ref 2, .int x.2.2.2.2.2.1])) ∧ H'[66]? = some (.inl (1, 1, .inr (.inl x.2.2.2.2.2.2))) ∧ xfr [3, 2, 1, 66] H H' := by
  have G : Go S (d + 6) 271 (0, [some (.ref 0), some (.ref 66), none], []) (H, z) (fun _ _ => False) (fun r => ∃ H' : List xE, r = (.inr (some (.int x.1)), (H', zX x.2.1 z)) ∧ H'[3]? = some (.inr (2, [.ref 4, .int x.2.2.1, .int x.2.2.2.1])) ∧ H'[2]? = some (.inl (0, 64, .inl x.2.2.2.2.1)) ∧ H'[1]? = some (.inr (4, [.ref 2, .int x.2.2.2.2.2.1])) ∧ H'[66]? = some (.inl (1, 1, .inr (.inl x.2.2.2.2.2.2))) ∧ xfr [3, 2, 1, 66] H H') := by
    unfold q_L_undo at h
    refine go_step (fun _ => ev_run 3 (F' := (3, [some (.ref 0), some (.ref 66), none], [.ref 0, .int (0 : Int32), .ref 66])) rfl) ?_
    rcases okx h with ⟨e2, y1, hy1, h⟩ | ⟨v3, y4, hy4, h⟩
    · skip
      obtain ⟨H5, hCH5, eH5_3, eH5_2, eH5_1, fH5⟩ := C_X11_undo (S := S) (d := d) (z := z) u_0 u_3 u_4 u_6 u_5 u_2 u_1 hy1
      by_cases s3 : e2 = 3
      · have h := (if_pos s3).symm.trans h
        subst s3
        refine go_step (F1 := (12, [some (.ref 0), some (.ref 66), none], [])) (M1 := (H5, (false, z.2.1 + 1, z.2.2 + 6))) (fun _ => ev_callVC (x := (.invokevirtual 32, 3, 110, 10, 718, .null)) (as := []) (rest := [.int (0 : Int32), .ref 66]) rfl rfl u_0 rfl rfl hCH5 rfl) ?_
        refine go_step (fun _ => ev_run 1 (F' := (13, [some (.ref 0), some (.ref 66), none], [.int (1 : Int32)])) rfl) ?_
        cases h
        exact Or.inr ⟨_, ev_ret rfl rfl rfl rfl, H5, rfl, eH5_3, eH5_2, eH5_1, ((fH5 66 rfl).trans u_66), (xfr_t xfr_refl rfl fH5)⟩
      · have h := (if_neg s3).symm.trans h
        cases h
    · skip
      obtain ⟨H6, hCH6, eH6_3, eH6_2, eH6_1, fH6⟩ := C_X11_undo (S := S) (d := d) (z := z) u_0 u_3 u_4 u_6 u_5 u_2 u_1 hy4
      refine go_step (F1 := (6, [some (.ref 0), some (.ref 66), none], [.int v3, .int (0 : Int32), .ref 66])) (M1 := (H6, z)) (fun _ => ev_callV (x := (.invokevirtual 32, 3, 110, 10, 718, .null)) (as := []) (rest := [.int (0 : Int32), .ref 66]) rfl rfl u_0 hCH6 rfl) ?_
      refine go_step (fun _ => ev_run 1 (F' := (7, [some (.ref 0), some (.ref 66), none], [.long (v3.toInt64), .int (0 : Int32), .ref 66])) rfl) ?_
      refine go_last rfl ((fH6 66 rfl).trans u_66) rfl (fun H7 (eH7 : H7[66]? = some (.inl (1, 1, .inr (.inl (vp_updL a66 (0 : Int32).toNatClampNeg (v3.toInt64)))))) fH7 => ?_)
      refine go_step (fun _ => ev_run 2 (F' := (15, [some (.ref 0), some (.ref 66), none], [.int (0 : Int32)])) rfl) ?_
      cases h
      exact Or.inr ⟨_, ev_ret rfl rfl rfl rfl, H7, rfl, ((fH7 3 rfl).trans eH6_3), ((fH7 2 rfl).trans eH6_2), ((fH7 1 rfl).trans eH6_1), eH7, (xfr_t (xfr_t xfr_refl rfl fH6) rfl fH7)⟩
  obtain ⟨_, hE, H', rfl, hrest⟩ := go_end G
  exact ⟨H', hE, hrest⟩
def q_L_librarySum (x1 : Int32) (x2 : Int32) (c1_1 : Int32) (a2 : Nat → Int32) (a66 : Nat → Int64) : Option (Int32 × Bool × (Nat → Int64)) := (xbnd (q_X11_librarySum x1 x2 c1_1 a2) (fun e2 y1 => (if e2 = 2 then (some ((1 : Int32), true, a66)) else none)) (fun v3 y4 => (some ((0 : Int32), false, (vp_updL a66 (0 : Int32).toNatClampNeg v3)))))
theorem C_L_librarySum {S : Nat × (Nat → Int32)} {d : Nat} {H : List xE} {z : Bool × Nat × Nat} {c1_1 : Int32} {a2 : Nat → Int32} {a66 : Nat → Int64} {x1 : Int32} {x2 : Int32} (u_1 : H[1]? = some (.inr (4, [.ref 2, .int c1_1]))) (u_2 : H[2]? = some (.inl (0, 64, .inl a2))) (u_0 : H[0]? = some (oO)) (u_66 : H[66]? = some (.inl (1, 1, .inr (.inl a66)))) {x : (Int32 × Bool × (Nat → Int64))} (h : q_L_librarySum x1 x2 c1_1 a2 a66 = some x) : ∃ H' : List xE, Cm S (d + 4) 272 [.ref 0, .int x1, .int x2, .ref 66] (H, z) (.inr (some (.int x.1)), (H', zX x.2.1 z)) ∧ H'[66]? = some (.inl (1, 1, .inr (.inl x.2.2))) ∧ xfr [66] H H' := by
  have G : Go S (d + 4) 272 (0, [some (.ref 0), some (.int x1), some (.int x2), some (.ref 66), none], []) (H, z) (fun _ _ => False) (fun r => ∃ H' : List xE, r = (.inr (some (.int x.1)), (H', zX x.2.1 z)) ∧ H'[66]? = some (.inl (1, 1, .inr (.inl x.2.2))) ∧ xfr [66] H H') := by
    unfold q_L_librarySum at h
    refine go_step (fun _ => ev_run 5 (F' := (5, [some (.ref 0), some (.int x1), some (.int x2), some (.ref 66), none], [.int x2, .int x1, .ref 0, .int (0 : Int32), .ref 66])) rfl) ?_
    rcases okx h with ⟨e2, y1, hy1, h⟩ | ⟨v3, y4, hy4, h⟩
    · skip
      by_cases s2 : e2 = 2
      · have h := (if_pos s2).symm.trans h
        subst s2
        refine go_step (F1 := (14, [some (.ref 0), some (.int x1), some (.int x2), some (.ref 66), none], [])) (M1 := (H, (false, z.2.1 + 1, z.2.2 + 6))) (fun _ => ev_callVC (x := (.invokevirtual 38, 3, 111, 10, 756, .null)) (as := [.int x1, .int x2]) (rest := [.int (0 : Int32), .ref 66]) rfl rfl u_0 rfl rfl (C_X11_librarySum (S := S) (d := d) (z := z) (x1 := x1) (x2 := x2) u_1 u_0 u_2 hy1) rfl) ?_
        refine go_step (fun _ => ev_run 1 (F' := (15, [some (.ref 0), some (.int x1), some (.int x2), some (.ref 66), none], [.int (1 : Int32)])) rfl) ?_
        cases h
        exact Or.inr ⟨_, ev_ret rfl rfl rfl rfl, H, rfl, u_66, xfr_refl⟩
      · have h := (if_neg s2).symm.trans h
        cases h
    · skip
      refine go_step (F1 := (8, [some (.ref 0), some (.int x1), some (.int x2), some (.ref 66), none], [.long v3, .int (0 : Int32), .ref 66])) (M1 := (H, z)) (fun _ => ev_callV (x := (.invokevirtual 38, 3, 111, 10, 756, .null)) (as := [.int x1, .int x2]) (rest := [.int (0 : Int32), .ref 66]) rfl rfl u_0 (C_X11_librarySum (S := S) (d := d) (z := z) (x1 := x1) (x2 := x2) u_1 u_0 u_2 hy4) rfl) ?_
      refine go_last rfl u_66 rfl (fun H5 (eH5 : H5[66]? = some (.inl (1, 1, .inr (.inl (vp_updL a66 (0 : Int32).toNatClampNeg v3))))) fH5 => ?_)
      refine go_step (fun _ => ev_run 2 (F' := (17, [some (.ref 0), some (.int x1), some (.int x2), some (.ref 66), none], [.int (0 : Int32)])) rfl) ?_
      cases h
      exact Or.inr ⟨_, ev_ret rfl rfl rfl rfl, H5, rfl, eH5, (xfr_t xfr_refl rfl fH5)⟩
  obtain ⟨_, hE, H', rfl, hrest⟩ := go_end G
  exact ⟨H', hE, hrest⟩
def q_L_kind (x1 : Int32) (x2 : Int32) (x3 : Int32) (x4 : Int32) (x5 : Int32) (c8_0 : Int32) (c8_1 : Int32) (c8_2 : Int32) (c8_3 : Int32) (c8_4 : Int32) (c8_5 : Int32) (a66 : Nat → Int64) : Option (Int32 × Bool × Int32 × Int32 × Int32 × Int32 × Int32 × Int32 × (Nat → Int64)) := (xbnd (q_X11_kind x1 x2 x3 x4 x5 c8_0 c8_1 c8_2 c8_3 c8_4 c8_5) (fun e2 y1 => (if e2 = 0 then (some ((1 : Int32), true, y1.1, y1.2.1, y1.2.2.1, y1.2.2.2.1, y1.2.2.2.2.1, y1.2.2.2.2.2, a66)) else none)) (fun v3 y4 => (some ((0 : Int32), false, y4.1, y4.2.1, y4.2.2.1, y4.2.2.2.1, y4.2.2.2.2.1, y4.2.2.2.2.2, (vp_updL a66 (0 : Int32).toNatClampNeg (v3.toInt64))))))
theorem C_L_kind {S : Nat × (Nat → Int32)} {d : Nat} {H : List xE} {z : Bool × Nat × Nat} {c8_0 : Int32} {c8_1 : Int32} {c8_2 : Int32} {c8_3 : Int32} {c8_4 : Int32} {c8_5 : Int32} {a66 : Nat → Int64} {x1 : Int32} {x2 : Int32} {x3 : Int32} {x4 : Int32} {x5 : Int32} (u_8 : H[8]? = some (.inr (1, [.int c8_0, .int c8_1, .int c8_2, .int c8_3, .int c8_4, .int c8_5]))) (u_0 : H[0]? = some (oO)) (u_66 : H[66]? = some (.inl (1, 1, .inr (.inl a66)))) {x : (Int32 × Bool × Int32 × Int32 × Int32 × Int32 × Int32 × Int32 × (Nat → Int64))} (h : q_L_kind x1 x2 x3 x4 x5 c8_0 c8_1 c8_2 c8_3 c8_4 c8_5 a66 = some x) : ∃ H' : List xE, Cm S (d + 2) 273 [.ref 0, .int x1, .int x2, .int x3, .int x4, .int x5, .ref 66] (H, z) (.inr (some (.int x.1)), (H', zX x.2.1 z)) ∧ H'[8]? = some (.inr (1, [.int x.2.2.1, .int x.2.2.2.1, .int x.2.2.2.2.1, .int x.2.2.2.2.2.1, .int x.2.2.2.2.2.2.1, .int x.2.2.2.2.2.2.2.1])) ∧ H'[66]? = some (.inl (1, 1, .inr (.inl x.2.2.2.2.2.2.2.2))) ∧ xfr [8, 66] H H' := by
  have G : Go S (d + 2) 273 (0, [some (.ref 0), some (.int x1), some (.int x2), some (.int x3), some (.int x4), some (.int x5), some (.ref 66), none], []) (H, z) (fun _ _ => False) (fun r => ∃ H' : List xE, r = (.inr (some (.int x.1)), (H', zX x.2.1 z)) ∧ H'[8]? = some (.inr (1, [.int x.2.2.1, .int x.2.2.2.1, .int x.2.2.2.2.1, .int x.2.2.2.2.2.1, .int x.2.2.2.2.2.2.1, .int x.2.2.2.2.2.2.2.1])) ∧ H'[66]? = some (.inl (1, 1, .inr (.inl x.2.2.2.2.2.2.2.2))) ∧ xfr [8, 66] H H') := by
    unfold q_L_kind at h
    refine go_step (fun _ => ev_run 8 (F' := (11, [some (.ref 0), some (.int x1), some (.int x2), some (.int x3), some (.int x4), some (.int x5), some (.ref 66), none], [.int x5, .int x4, .int x3, .int x2, .int x1, .ref 0, .int (0 : Int32), .ref 66])) rfl) ?_
    rcases okx h with ⟨e2, y1, hy1, h⟩ | ⟨v3, y4, hy4, h⟩
    · skip
      obtain ⟨H5, hCH5, eH5_8, fH5⟩ := C_X11_kind (S := S) (d := d) (z := z) (x1 := x1) (x2 := x2) (x3 := x3) (x4 := x4) (x5 := x5) u_0 u_8 hy1
      by_cases s0 : e2 = 0
      · have h := (if_pos s0).symm.trans h
        subst s0
        refine go_step (F1 := (21, [some (.ref 0), some (.int x1), some (.int x2), some (.int x3), some (.int x4), some (.int x5), some (.ref 66), none], [])) (M1 := (H5, (false, z.2.1 + 1, z.2.2 + 6))) (fun _ => ev_callVC (x := (.invokevirtual 42, 3, 112, 10, 768, .null)) (as := [.int x1, .int x2, .int x3, .int x4, .int x5]) (rest := [.int (0 : Int32), .ref 66]) rfl rfl u_0 rfl rfl hCH5 rfl) ?_
        refine go_step (fun _ => ev_run 1 (F' := (22, [some (.ref 0), some (.int x1), some (.int x2), some (.int x3), some (.int x4), some (.int x5), some (.ref 66), none], [.int (1 : Int32)])) rfl) ?_
        cases h
        exact Or.inr ⟨_, ev_ret rfl rfl rfl rfl, H5, rfl, eH5_8, ((fH5 66 rfl).trans u_66), (xfr_t xfr_refl rfl fH5)⟩
      · have h := (if_neg s0).symm.trans h
        cases h
    · skip
      obtain ⟨H6, hCH6, eH6_8, fH6⟩ := C_X11_kind (S := S) (d := d) (z := z) (x1 := x1) (x2 := x2) (x3 := x3) (x4 := x4) (x5 := x5) u_0 u_8 hy4
      refine go_step (F1 := (14, [some (.ref 0), some (.int x1), some (.int x2), some (.int x3), some (.int x4), some (.int x5), some (.ref 66), none], [.int v3, .int (0 : Int32), .ref 66])) (M1 := (H6, z)) (fun _ => ev_callV (x := (.invokevirtual 42, 3, 112, 10, 768, .null)) (as := [.int x1, .int x2, .int x3, .int x4, .int x5]) (rest := [.int (0 : Int32), .ref 66]) rfl rfl u_0 hCH6 rfl) ?_
      refine go_step (fun _ => ev_run 1 (F' := (15, [some (.ref 0), some (.int x1), some (.int x2), some (.int x3), some (.int x4), some (.int x5), some (.ref 66), none], [.long (v3.toInt64), .int (0 : Int32), .ref 66])) rfl) ?_
      refine go_last rfl ((fH6 66 rfl).trans u_66) rfl (fun H7 (eH7 : H7[66]? = some (.inl (1, 1, .inr (.inl (vp_updL a66 (0 : Int32).toNatClampNeg (v3.toInt64)))))) fH7 => ?_)
      refine go_step (fun _ => ev_run 2 (F' := (24, [some (.ref 0), some (.int x1), some (.int x2), some (.int x3), some (.int x4), some (.int x5), some (.ref 66), none], [.int (0 : Int32)])) rfl) ?_
      cases h
      exact Or.inr ⟨_, ev_ret rfl rfl rfl rfl, H7, rfl, ((fH7 8 rfl).trans eH6_8), eH7, (xfr_t (xfr_t xfr_refl rfl fH6) rfl fH7)⟩
  obtain ⟨_, hE, H', rfl, hrest⟩ := go_end G
  exact ⟨H', hE, hrest⟩
def q_L_sum (x1 : Int32) (x2 : Int32) (c1_1 : Int32) (c8_0 : Int32) (c8_1 : Int32) (c8_2 : Int32) (c8_3 : Int32) (c8_4 : Int32) (c8_5 : Int32) (a2 : Nat → Int32) (a66 : Nat → Int64) : Option (Int32 × Bool × (Nat → Int64)) := (xbnd (q_X11_sum x1 x2 c1_1 c8_0 c8_1 c8_2 c8_3 c8_4 c8_5 a2) (fun e2 y1 => (if e2 = 2 then (some ((1 : Int32), true, a66)) else none)) (fun v3 y4 => (some ((0 : Int32), false, (vp_updL a66 (0 : Int32).toNatClampNeg v3)))))
theorem C_L_sum {S : Nat × (Nat → Int32)} {d : Nat} {H : List xE} {z : Bool × Nat × Nat} {c1_1 : Int32} {c8_0 : Int32} {c8_1 : Int32} {c8_2 : Int32} {c8_3 : Int32} {c8_4 : Int32} {c8_5 : Int32} {a2 : Nat → Int32} {a66 : Nat → Int64} {x1 : Int32} {x2 : Int32} (u_1 : H[1]? = some (.inr (4, [.ref 2, .int c1_1]))) (u_8 : H[8]? = some (.inr (1, [.int c8_0, .int c8_1, .int c8_2, .int c8_3, .int c8_4, .int c8_5]))) (u_2 : H[2]? = some (.inl (0, 64, .inl a2))) (u_0 : H[0]? = some (oO)) (u_66 : H[66]? = some (.inl (1, 1, .inr (.inl a66)))) {x : (Int32 × Bool × (Nat → Int64))} (h : q_L_sum x1 x2 c1_1 c8_0 c8_1 c8_2 c8_3 c8_4 c8_5 a2 a66 = some x) : ∃ H' : List xE, Cm S (d + 4) 274 [.ref 0, .int x1, .int x2, .ref 66] (H, z) (.inr (some (.int x.1)), (H', zX x.2.1 z)) ∧ H'[66]? = some (.inl (1, 1, .inr (.inl x.2.2))) ∧ xfr [66] H H' := by
  have G : Go S (d + 4) 274 (0, [some (.ref 0), some (.int x1), some (.int x2), some (.ref 66), none], []) (H, z) (fun _ _ => False) (fun r => ∃ H' : List xE, r = (.inr (some (.int x.1)), (H', zX x.2.1 z)) ∧ H'[66]? = some (.inl (1, 1, .inr (.inl x.2.2))) ∧ xfr [66] H H') := by
    unfold q_L_sum at h
    refine go_step (fun _ => ev_run 5 (F' := (5, [some (.ref 0), some (.int x1), some (.int x2), some (.ref 66), none], [.int x2, .int x1, .ref 0, .int (0 : Int32), .ref 66])) rfl) ?_
    rcases okx h with ⟨e2, y1, hy1, h⟩ | ⟨v3, y4, hy4, h⟩
    · skip
      by_cases s2 : e2 = 2
      · have h := (if_pos s2).symm.trans h
        subst s2
        refine go_step (F1 := (14, [some (.ref 0), some (.int x1), some (.int x2), some (.ref 66), none], [])) (M1 := (H, (false, z.2.1 + 1, z.2.2 + 6))) (fun _ => ev_callVC (x := (.invokevirtual 46, 3, 113, 10, 790, .null)) (as := [.int x1, .int x2]) (rest := [.int (0 : Int32), .ref 66]) rfl rfl u_0 rfl rfl (C_X11_sum (S := S) (d := d) (z := z) (x1 := x1) (x2 := x2) u_1 u_0 u_8 u_2 hy1) rfl) ?_
        refine go_step (fun _ => ev_run 1 (F' := (15, [some (.ref 0), some (.int x1), some (.int x2), some (.ref 66), none], [.int (1 : Int32)])) rfl) ?_
        cases h
        exact Or.inr ⟨_, ev_ret rfl rfl rfl rfl, H, rfl, u_66, xfr_refl⟩
      · have h := (if_neg s2).symm.trans h
        cases h
    · skip
      refine go_step (F1 := (8, [some (.ref 0), some (.int x1), some (.int x2), some (.ref 66), none], [.long v3, .int (0 : Int32), .ref 66])) (M1 := (H, z)) (fun _ => ev_callV (x := (.invokevirtual 46, 3, 113, 10, 790, .null)) (as := [.int x1, .int x2]) (rest := [.int (0 : Int32), .ref 66]) rfl rfl u_0 (C_X11_sum (S := S) (d := d) (z := z) (x1 := x1) (x2 := x2) u_1 u_0 u_8 u_2 hy4) rfl) ?_
      refine go_last rfl u_66 rfl (fun H5 (eH5 : H5[66]? = some (.inl (1, 1, .inr (.inl (vp_updL a66 (0 : Int32).toNatClampNeg v3))))) fH5 => ?_)
      refine go_step (fun _ => ev_run 2 (F' := (17, [some (.ref 0), some (.int x1), some (.int x2), some (.ref 66), none], [.int (0 : Int32)])) rfl) ?_
      cases h
      exact Or.inr ⟨_, ev_ret rfl rfl rfl rfl, H5, rfl, eH5, (xfr_t xfr_refl rfl fH5)⟩
  obtain ⟨_, hE, H', rfl, hrest⟩ := go_end G
  exact ⟨H', hE, hrest⟩
def q_L_joined (x1 : Int32) (c1_1 : Int32) (c8_0 : Int32) (c8_1 : Int32) (c8_2 : Int32) (c8_3 : Int32) (c8_4 : Int32) (c8_5 : Int32) (a2 : Nat → Int32) (a66 : Nat → Int64) : Option (Int32 × Bool × (Nat → Int64)) := (xbnd (q_X11_joined x1 c1_1 c8_0 c8_1 c8_2 c8_3 c8_4 c8_5 a2) (fun e2 y1 => (if e2 = 2 then (some ((1 : Int32), true, a66)) else none)) (fun v3 y4 => (some ((0 : Int32), false, (vp_updL a66 (0 : Int32).toNatClampNeg v3)))))
theorem C_L_joined {S : Nat × (Nat → Int32)} {d : Nat} {H : List xE} {z : Bool × Nat × Nat} {c1_1 : Int32} {c8_0 : Int32} {c8_1 : Int32} {c8_2 : Int32} {c8_3 : Int32} {c8_4 : Int32} {c8_5 : Int32} {a2 : Nat → Int32} {a66 : Nat → Int64} {x1 : Int32} (u_1 : H[1]? = some (.inr (4, [.ref 2, .int c1_1]))) (u_8 : H[8]? = some (.inr (1, [.int c8_0, .int c8_1, .int c8_2, .int c8_3, .int c8_4, .int c8_5]))) (u_2 : H[2]? = some (.inl (0, 64, .inl a2))) (u_0 : H[0]? = some (oO)) (u_66 : H[66]? = some (.inl (1, 1, .inr (.inl a66)))) {x : (Int32 × Bool × (Nat → Int64))} (h : q_L_joined x1 c1_1 c8_0 c8_1 c8_2 c8_3 c8_4 c8_5 a2 a66 = some x) : ∃ H' : List xE, Cm S (d + 6) 275 [.ref 0, .int x1, .ref 66] (H, z) (.inr (some (.int x.1)), (H', zX x.2.1 z)) ∧ H'[66]? = some (.inl (1, 1, .inr (.inl x.2.2))) ∧ xfr [66] H H' := by
  have G : Go S (d + 6) 275 (0, [some (.ref 0), some (.int x1), some (.ref 66), none], []) (H, z) (fun _ _ => False) (fun r => ∃ H' : List xE, r = (.inr (some (.int x.1)), (H', zX x.2.1 z)) ∧ H'[66]? = some (.inl (1, 1, .inr (.inl x.2.2))) ∧ xfr [66] H H') := by
    unfold q_L_joined at h
    refine go_step (fun _ => ev_run 4 (F' := (4, [some (.ref 0), some (.int x1), some (.ref 66), none], [.int x1, .ref 0, .int (0 : Int32), .ref 66])) rfl) ?_
    rcases okx h with ⟨e2, y1, hy1, h⟩ | ⟨v3, y4, hy4, h⟩
    · skip
      by_cases s2 : e2 = 2
      · have h := (if_pos s2).symm.trans h
        subst s2
        refine go_step (F1 := (12, [some (.ref 0), some (.int x1), some (.ref 66), none], [])) (M1 := (H, (false, z.2.1 + 1, z.2.2 + 6))) (fun _ => ev_callVC (x := (.invokevirtual 49, 3, 114, 10, 797, .null)) (as := [.int x1]) (rest := [.int (0 : Int32), .ref 66]) rfl rfl u_0 rfl rfl (C_X11_joined (S := S) (d := d) (z := z) (x1 := x1) u_1 u_0 u_8 u_2 hy1) rfl) ?_
        refine go_step (fun _ => ev_run 1 (F' := (13, [some (.ref 0), some (.int x1), some (.ref 66), none], [.int (1 : Int32)])) rfl) ?_
        cases h
        exact Or.inr ⟨_, ev_ret rfl rfl rfl rfl, H, rfl, u_66, xfr_refl⟩
      · have h := (if_neg s2).symm.trans h
        cases h
    · skip
      refine go_step (F1 := (7, [some (.ref 0), some (.int x1), some (.ref 66), none], [.long v3, .int (0 : Int32), .ref 66])) (M1 := (H, z)) (fun _ => ev_callV (x := (.invokevirtual 49, 3, 114, 10, 797, .null)) (as := [.int x1]) (rest := [.int (0 : Int32), .ref 66]) rfl rfl u_0 (C_X11_joined (S := S) (d := d) (z := z) (x1 := x1) u_1 u_0 u_8 u_2 hy4) rfl) ?_
      refine go_last rfl u_66 rfl (fun H5 (eH5 : H5[66]? = some (.inl (1, 1, .inr (.inl (vp_updL a66 (0 : Int32).toNatClampNeg v3))))) fH5 => ?_)
      refine go_step (fun _ => ev_run 2 (F' := (15, [some (.ref 0), some (.int x1), some (.ref 66), none], [.int (0 : Int32)])) rfl) ?_
      cases h
      exact Or.inr ⟨_, ev_ret rfl rfl rfl rfl, H5, rfl, eH5, (xfr_t xfr_refl rfl fH5)⟩
  obtain ⟨_, hE, H', rfl, hrest⟩ := go_end G
  exact ⟨H', hE, hrest⟩
def q_L_changed (x1 : Int32) (x2 : Int32) (c1_1 : Int32) (c8_0 : Int32) (c8_1 : Int32) (c8_2 : Int32) (c8_3 : Int32) (c8_4 : Int32) (c8_5 : Int32) (a2 : Nat → Int32) (a66 : Nat → Int64) : Option (Int32 × Bool × (Nat → Int64)) := (xbnd (q_X11_changed x1 x2 c1_1 c8_0 c8_1 c8_2 c8_3 c8_4 c8_5 a2) (fun e2 y1 => (if e2 = 2 then (some ((1 : Int32), true, a66)) else if e2 = 0 then (some ((2 : Int32), true, a66)) else none)) (fun v3 y4 => (some ((0 : Int32), false, (vp_updL a66 (0 : Int32).toNatClampNeg v3)))))
theorem C_L_changed {S : Nat × (Nat → Int32)} {d : Nat} {H : List xE} {z : Bool × Nat × Nat} {c1_1 : Int32} {c8_0 : Int32} {c8_1 : Int32} {c8_2 : Int32} {c8_3 : Int32} {c8_4 : Int32} {c8_5 : Int32} {a2 : Nat → Int32} {a66 : Nat → Int64} {x1 : Int32} {x2 : Int32} (u_1 : H[1]? = some (.inr (4, [.ref 2, .int c1_1]))) (u_8 : H[8]? = some (.inr (1, [.int c8_0, .int c8_1, .int c8_2, .int c8_3, .int c8_4, .int c8_5]))) (u_2 : H[2]? = some (.inl (0, 64, .inl a2))) (u_0 : H[0]? = some (oO)) (u_66 : H[66]? = some (.inl (1, 1, .inr (.inl a66)))) {x : (Int32 × Bool × (Nat → Int64))} (h : q_L_changed x1 x2 c1_1 c8_0 c8_1 c8_2 c8_3 c8_4 c8_5 a2 a66 = some x) : ∃ H' : List xE, Cm S (d + 5) 276 [.ref 0, .int x1, .int x2, .ref 66] (H, z) (.inr (some (.int x.1)), (H', zX x.2.1 z)) ∧ H'[66]? = some (.inl (1, 1, .inr (.inl x.2.2))) ∧ xfr [66] H H' := by
  have G : Go S (d + 5) 276 (0, [some (.ref 0), some (.int x1), some (.int x2), some (.ref 66), none], []) (H, z) (fun _ _ => False) (fun r => ∃ H' : List xE, r = (.inr (some (.int x.1)), (H', zX x.2.1 z)) ∧ H'[66]? = some (.inl (1, 1, .inr (.inl x.2.2))) ∧ xfr [66] H H') := by
    unfold q_L_changed at h
    refine go_step (fun _ => ev_run 5 (F' := (5, [some (.ref 0), some (.int x1), some (.int x2), some (.ref 66), none], [.int x2, .int x1, .ref 0, .int (0 : Int32), .ref 66])) rfl) ?_
    rcases okx h with ⟨e2, y1, hy1, h⟩ | ⟨v3, y4, hy4, h⟩
    · skip
      by_cases s2 : e2 = 2
      · have h := (if_pos s2).symm.trans h
        subst s2
        refine go_step (F1 := (14, [some (.ref 0), some (.int x1), some (.int x2), some (.ref 66), none], [])) (M1 := (H, (false, z.2.1 + 1, z.2.2 + 6))) (fun _ => ev_callVC (x := (.invokevirtual 53, 3, 115, 10, 804, .null)) (as := [.int x1, .int x2]) (rest := [.int (0 : Int32), .ref 66]) rfl rfl u_0 rfl rfl (C_X11_changed (S := S) (d := d) (z := z) (x1 := x1) (x2 := x2) u_1 u_0 u_8 u_2 hy1) rfl) ?_
        refine go_step (fun _ => ev_run 1 (F' := (15, [some (.ref 0), some (.int x1), some (.int x2), some (.ref 66), none], [.int (1 : Int32)])) rfl) ?_
        cases h
        exact Or.inr ⟨_, ev_ret rfl rfl rfl rfl, H, rfl, u_66, xfr_refl⟩
      · have h := (if_neg s2).symm.trans h
        by_cases s0 : e2 = 0
        · have h := (if_pos s0).symm.trans h
          subst s0
          refine go_step (F1 := (18, [some (.ref 0), some (.int x1), some (.int x2), some (.ref 66), none], [])) (M1 := (H, (false, z.2.1 + 1, z.2.2 + 6))) (fun _ => ev_callVC (x := (.invokevirtual 53, 3, 115, 10, 804, .null)) (as := [.int x1, .int x2]) (rest := [.int (0 : Int32), .ref 66]) rfl rfl u_0 rfl rfl (C_X11_changed (S := S) (d := d) (z := z) (x1 := x1) (x2 := x2) u_1 u_0 u_8 u_2 hy1) rfl) ?_
          refine go_step (fun _ => ev_run 1 (F' := (19, [some (.ref 0), some (.int x1), some (.int x2), some (.ref 66), none], [.int (2 : Int32)])) rfl) ?_
          cases h
          exact Or.inr ⟨_, ev_ret rfl rfl rfl rfl, H, rfl, u_66, xfr_refl⟩
        · have h := (if_neg s0).symm.trans h
          cases h
    · skip
      refine go_step (F1 := (8, [some (.ref 0), some (.int x1), some (.int x2), some (.ref 66), none], [.long v3, .int (0 : Int32), .ref 66])) (M1 := (H, z)) (fun _ => ev_callV (x := (.invokevirtual 53, 3, 115, 10, 804, .null)) (as := [.int x1, .int x2]) (rest := [.int (0 : Int32), .ref 66]) rfl rfl u_0 (C_X11_changed (S := S) (d := d) (z := z) (x1 := x1) (x2 := x2) u_1 u_0 u_8 u_2 hy4) rfl) ?_
      refine go_last rfl u_66 rfl (fun H5 (eH5 : H5[66]? = some (.inl (1, 1, .inr (.inl (vp_updL a66 (0 : Int32).toNatClampNeg v3))))) fH5 => ?_)
      refine go_step (fun _ => ev_run 2 (F' := (21, [some (.ref 0), some (.int x1), some (.int x2), some (.ref 66), none], [.int (0 : Int32)])) rfl) ?_
      cases h
      exact Or.inr ⟨_, ev_ret rfl rfl rfl rfl, H5, rfl, eH5, (xfr_t xfr_refl rfl fH5)⟩
  obtain ⟨_, hE, H', rfl, hrest⟩ := go_end G
  exact ⟨H', hE, hrest⟩
def q_L_zeros (x1 : Int32) (c1_1 : Int32) (c8_0 : Int32) (c8_1 : Int32) (c8_2 : Int32) (c8_3 : Int32) (c8_4 : Int32) (c8_5 : Int32) (a2 : Nat → Int32) (a66 : Nat → Int64) : Option (Int32 × Bool × (Nat → Int64)) := (xbnd (q_X11_zeros x1 c1_1 c8_0 c8_1 c8_2 c8_3 c8_4 c8_5 a2) (fun e2 y1 => (if e2 = 0 then (some ((1 : Int32), true, a66)) else none)) (fun v3 y4 => (some ((0 : Int32), false, (vp_updL a66 (0 : Int32).toNatClampNeg v3)))))
theorem C_L_zeros {S : Nat × (Nat → Int32)} {d : Nat} {H : List xE} {z : Bool × Nat × Nat} {c1_1 : Int32} {c8_0 : Int32} {c8_1 : Int32} {c8_2 : Int32} {c8_3 : Int32} {c8_4 : Int32} {c8_5 : Int32} {a2 : Nat → Int32} {a66 : Nat → Int64} {x1 : Int32} (u_1 : H[1]? = some (.inr (4, [.ref 2, .int c1_1]))) (u_8 : H[8]? = some (.inr (1, [.int c8_0, .int c8_1, .int c8_2, .int c8_3, .int c8_4, .int c8_5]))) (u_2 : H[2]? = some (.inl (0, 64, .inl a2))) (u_0 : H[0]? = some (oO)) (u_66 : H[66]? = some (.inl (1, 1, .inr (.inl a66)))) {x : (Int32 × Bool × (Nat → Int64))} (h : q_L_zeros x1 c1_1 c8_0 c8_1 c8_2 c8_3 c8_4 c8_5 a2 a66 = some x) : ∃ H' : List xE, Cm S (d + 5) 277 [.ref 0, .int x1, .ref 66] (H, z) (.inr (some (.int x.1)), (H', zX x.2.1 z)) ∧ H'[66]? = some (.inl (1, 1, .inr (.inl x.2.2))) ∧ xfr [66] H H' := by
  have G : Go S (d + 5) 277 (0, [some (.ref 0), some (.int x1), some (.ref 66), none], []) (H, z) (fun _ _ => False) (fun r => ∃ H' : List xE, r = (.inr (some (.int x.1)), (H', zX x.2.1 z)) ∧ H'[66]? = some (.inl (1, 1, .inr (.inl x.2.2))) ∧ xfr [66] H H') := by
    unfold q_L_zeros at h
    refine go_step (fun _ => ev_run 4 (F' := (4, [some (.ref 0), some (.int x1), some (.ref 66), none], [.int x1, .ref 0, .int (0 : Int32), .ref 66])) rfl) ?_
    rcases okx h with ⟨e2, y1, hy1, h⟩ | ⟨v3, y4, hy4, h⟩
    · skip
      by_cases s0 : e2 = 0
      · have h := (if_pos s0).symm.trans h
        subst s0
        refine go_step (F1 := (12, [some (.ref 0), some (.int x1), some (.ref 66), none], [])) (M1 := (H, (false, z.2.1 + 1, z.2.2 + 6))) (fun _ => ev_callVC (x := (.invokevirtual 56, 3, 116, 10, 815, .null)) (as := [.int x1]) (rest := [.int (0 : Int32), .ref 66]) rfl rfl u_0 rfl rfl (C_X11_zeros (S := S) (d := d) (z := z) (x1 := x1) u_0 u_1 u_8 u_2 hy1) rfl) ?_
        refine go_step (fun _ => ev_run 1 (F' := (13, [some (.ref 0), some (.int x1), some (.ref 66), none], [.int (1 : Int32)])) rfl) ?_
        cases h
        exact Or.inr ⟨_, ev_ret rfl rfl rfl rfl, H, rfl, u_66, xfr_refl⟩
      · have h := (if_neg s0).symm.trans h
        cases h
    · skip
      refine go_step (F1 := (7, [some (.ref 0), some (.int x1), some (.ref 66), none], [.long v3, .int (0 : Int32), .ref 66])) (M1 := (H, z)) (fun _ => ev_callV (x := (.invokevirtual 56, 3, 116, 10, 815, .null)) (as := [.int x1]) (rest := [.int (0 : Int32), .ref 66]) rfl rfl u_0 (C_X11_zeros (S := S) (d := d) (z := z) (x1 := x1) u_0 u_1 u_8 u_2 hy4) rfl) ?_
      refine go_last rfl u_66 rfl (fun H5 (eH5 : H5[66]? = some (.inl (1, 1, .inr (.inl (vp_updL a66 (0 : Int32).toNatClampNeg v3))))) fH5 => ?_)
      refine go_step (fun _ => ev_run 2 (F' := (15, [some (.ref 0), some (.int x1), some (.ref 66), none], [.int (0 : Int32)])) rfl) ?_
      cases h
      exact Or.inr ⟨_, ev_ret rfl rfl rfl rfl, H5, rfl, eH5, (xfr_t xfr_refl rfl fH5)⟩
  obtain ⟨_, hE, H', rfl, hrest⟩ := go_end G
  exact ⟨H', hE, hrest⟩
def q_L_forge (x1 : Int32) (x2 : Int64) (c1_1 : Int32) (a2 : Nat → Int32) (c3_1 : Int32) (c3_2 : Int32) (c4_0 : Int32) (a6 : Nat → Int32) (a5 : Nat → Int32) (a66 : Nat → Int64) : Option (Int32 × Bool × (Nat → Int32) × Int32 × Int32 × (Nat → Int32) × (Nat → Int32) × (Nat → Int64)) := (xbnd (q_X11_forge x1 x2 c1_1 a2 c3_1 c3_2 c4_0 a6 a5) (fun e2 y1 => (if e2 = 2 then (some ((1 : Int32), true, y1.1, y1.2.1, y1.2.2.1, y1.2.2.2.1, y1.2.2.2.2, a66)) else if e2 = 0 then (some ((2 : Int32), true, y1.1, y1.2.1, y1.2.2.1, y1.2.2.2.1, y1.2.2.2.2, a66)) else none)) (fun v3 y4 => (some ((0 : Int32), false, y4.1, y4.2.1, y4.2.2.1, y4.2.2.2.1, y4.2.2.2.2, (vp_updL a66 (0 : Int32).toNatClampNeg (v3.toInt64))))))
theorem C_L_forge {S : Nat × (Nat → Int32)} {d : Nat} {H : List xE} {z : Bool × Nat × Nat} {c1_1 : Int32} {a2 : Nat → Int32} {c3_1 : Int32} {c3_2 : Int32} {c4_0 : Int32} {a6 : Nat → Int32} {a5 : Nat → Int32} {a66 : Nat → Int64} {x1 : Int32} {x2 : Int64} (u_1 : H[1]? = some (.inr (4, [.ref 2, .int c1_1]))) (u_2 : H[2]? = some (.inl (0, 64, .inl a2))) (u_3 : H[3]? = some (.inr (2, [.ref 4, .int c3_1, .int c3_2]))) (u_4 : H[4]? = some (.inr (7, [.int c4_0, .ref 5, .ref 6]))) (u_6 : H[6]? = some (.inl (0, 10, .inl a6))) (u_5 : H[5]? = some (.inl (0, 640, .inl a5))) (u_0 : H[0]? = some (oO)) (u_66 : H[66]? = some (.inl (1, 1, .inr (.inl a66)))) {x : (Int32 × Bool × (Nat → Int32) × Int32 × Int32 × (Nat → Int32) × (Nat → Int32) × (Nat → Int64))} (h : q_L_forge x1 x2 c1_1 a2 c3_1 c3_2 c4_0 a6 a5 a66 = some x) : ∃ H' : List xE, Cm S (d + 4) 278 [.ref 0, .int x1, .long x2, .ref 66] (H, z) (.inr (some (.int x.1)), (H', zX x.2.1 z)) ∧ H'[2]? = some (.inl (0, 64, .inl x.2.2.1)) ∧ H'[3]? = some (.inr (2, [.ref 4, .int x.2.2.2.1, .int x.2.2.2.2.1])) ∧ H'[6]? = some (.inl (0, 10, .inl x.2.2.2.2.2.1)) ∧ H'[5]? = some (.inl (0, 640, .inl x.2.2.2.2.2.2.1)) ∧ H'[66]? = some (.inl (1, 1, .inr (.inl x.2.2.2.2.2.2.2))) ∧ xfr [2, 3, 6, 5, 66] H H' := by
  have G : Go S (d + 4) 278 (0, [some (.ref 0), some (.int x1), some (.long x2), none, some (.ref 66), none], []) (H, z) (fun _ _ => False) (fun r => ∃ H' : List xE, r = (.inr (some (.int x.1)), (H', zX x.2.1 z)) ∧ H'[2]? = some (.inl (0, 64, .inl x.2.2.1)) ∧ H'[3]? = some (.inr (2, [.ref 4, .int x.2.2.2.1, .int x.2.2.2.2.1])) ∧ H'[6]? = some (.inl (0, 10, .inl x.2.2.2.2.2.1)) ∧ H'[5]? = some (.inl (0, 640, .inl x.2.2.2.2.2.2.1)) ∧ H'[66]? = some (.inl (1, 1, .inr (.inl x.2.2.2.2.2.2.2))) ∧ xfr [2, 3, 6, 5, 66] H H') := by
    unfold q_L_forge at h
    refine go_step (fun _ => ev_run 5 (F' := (6, [some (.ref 0), some (.int x1), some (.long x2), none, some (.ref 66), none], [.long x2, .int x1, .ref 0, .int (0 : Int32), .ref 66])) rfl) ?_
    rcases okx h with ⟨e2, y1, hy1, h⟩ | ⟨v3, y4, hy4, h⟩
    · skip
      obtain ⟨H5, hCH5, eH5_2, eH5_3, eH5_6, eH5_5, fH5⟩ := C_X11_forge (S := S) (d := d) (z := z) (x1 := x1) (x2 := x2) u_0 u_1 u_2 u_3 u_4 u_6 u_5 hy1
      by_cases s2 : e2 = 2
      · have h := (if_pos s2).symm.trans h
        subst s2
        refine go_step (F1 := (16, [some (.ref 0), some (.int x1), some (.long x2), none, some (.ref 66), none], [])) (M1 := (H5, (false, z.2.1 + 1, z.2.2 + 6))) (fun _ => ev_callVC (x := (.invokevirtual 59, 3, 117, 10, 828, .null)) (as := [.int x1, .long x2]) (rest := [.int (0 : Int32), .ref 66]) rfl rfl u_0 rfl rfl hCH5 rfl) ?_
        refine go_step (fun _ => ev_run 1 (F' := (17, [some (.ref 0), some (.int x1), some (.long x2), none, some (.ref 66), none], [.int (1 : Int32)])) rfl) ?_
        cases h
        exact Or.inr ⟨_, ev_ret rfl rfl rfl rfl, H5, rfl, eH5_2, eH5_3, eH5_6, eH5_5, ((fH5 66 rfl).trans u_66), (xfr_t xfr_refl rfl fH5)⟩
      · have h := (if_neg s2).symm.trans h
        by_cases s0 : e2 = 0
        · have h := (if_pos s0).symm.trans h
          subst s0
          refine go_step (F1 := (20, [some (.ref 0), some (.int x1), some (.long x2), none, some (.ref 66), none], [])) (M1 := (H5, (false, z.2.1 + 1, z.2.2 + 6))) (fun _ => ev_callVC (x := (.invokevirtual 59, 3, 117, 10, 828, .null)) (as := [.int x1, .long x2]) (rest := [.int (0 : Int32), .ref 66]) rfl rfl u_0 rfl rfl hCH5 rfl) ?_
          refine go_step (fun _ => ev_run 1 (F' := (21, [some (.ref 0), some (.int x1), some (.long x2), none, some (.ref 66), none], [.int (2 : Int32)])) rfl) ?_
          cases h
          exact Or.inr ⟨_, ev_ret rfl rfl rfl rfl, H5, rfl, eH5_2, eH5_3, eH5_6, eH5_5, ((fH5 66 rfl).trans u_66), (xfr_t xfr_refl rfl fH5)⟩
        · have h := (if_neg s0).symm.trans h
          cases h
    · skip
      obtain ⟨H6, hCH6, eH6_2, eH6_3, eH6_6, eH6_5, fH6⟩ := C_X11_forge (S := S) (d := d) (z := z) (x1 := x1) (x2 := x2) u_0 u_1 u_2 u_3 u_4 u_6 u_5 hy4
      refine go_step (F1 := (9, [some (.ref 0), some (.int x1), some (.long x2), none, some (.ref 66), none], [.int v3, .int (0 : Int32), .ref 66])) (M1 := (H6, z)) (fun _ => ev_callV (x := (.invokevirtual 59, 3, 117, 10, 828, .null)) (as := [.int x1, .long x2]) (rest := [.int (0 : Int32), .ref 66]) rfl rfl u_0 hCH6 rfl) ?_
      refine go_step (fun _ => ev_run 1 (F' := (10, [some (.ref 0), some (.int x1), some (.long x2), none, some (.ref 66), none], [.long (v3.toInt64), .int (0 : Int32), .ref 66])) rfl) ?_
      refine go_last rfl ((fH6 66 rfl).trans u_66) rfl (fun H7 (eH7 : H7[66]? = some (.inl (1, 1, .inr (.inl (vp_updL a66 (0 : Int32).toNatClampNeg (v3.toInt64)))))) fH7 => ?_)
      refine go_step (fun _ => ev_run 2 (F' := (23, [some (.ref 0), some (.int x1), some (.long x2), none, some (.ref 66), none], [.int (0 : Int32)])) rfl) ?_
      cases h
      exact Or.inr ⟨_, ev_ret rfl rfl rfl rfl, H7, rfl, ((fH7 2 rfl).trans eH6_2), ((fH7 3 rfl).trans eH6_3), ((fH7 6 rfl).trans eH6_6), ((fH7 5 rfl).trans eH6_5), eH7, (xfr_t (xfr_t xfr_refl rfl fH6) rfl fH7)⟩
  obtain ⟨_, hE, H', rfl, hrest⟩ := go_end G
  exact ⟨H', hE, hrest⟩
def q_L_polynomial (x1 : Int32) (x2 : Int32) (x3 : Int32) (a10 : Nat → Int64) (a11 : Nat → Int64) (c14_0 : Int64) (c14_1 : Int64) (a66 : Nat → Int64) : Option (Int32 × Bool × (Nat → Int64) × (Nat → Int64) × Int64 × Int64 × (Nat → Int64)) := (xbnd (q_X11_polynomial x1 x2 x3 a10 a11 c14_0 c14_1) (fun e2 y1 => (if e2 = 2 then (some ((1 : Int32), true, y1.1, y1.2.1, y1.2.2.1, y1.2.2.2, a66)) else none)) (fun v3 y4 => (some ((0 : Int32), false, y4.1, y4.2.1, y4.2.2.1, y4.2.2.2, (vp_updL a66 (0 : Int32).toNatClampNeg (v3.toInt64))))))
theorem C_L_polynomial {S : Nat × (Nat → Int32)} {d : Nat} {H : List xE} {z : Bool × Nat × Nat} {a10 : Nat → Int64} {a11 : Nat → Int64} {c14_0 : Int64} {c14_1 : Int64} {a66 : Nat → Int64} {x1 : Int32} {x2 : Int32} {x3 : Int32} (u_10 : H[10]? = some (.inl (1, 8, .inr (.inl a10)))) (u_11 : H[11]? = some (.inl (1, 8, .inr (.inl a11)))) (u_14 : H[14]? = some (.inr (3, [.long c14_0, .long c14_1]))) (u_0 : H[0]? = some (oO)) (u_66 : H[66]? = some (.inl (1, 1, .inr (.inl a66)))) {x : (Int32 × Bool × (Nat → Int64) × (Nat → Int64) × Int64 × Int64 × (Nat → Int64))} (h : q_L_polynomial x1 x2 x3 a10 a11 c14_0 c14_1 a66 = some x) : ∃ H' : List xE, Cm S (d + 4) 279 [.ref 0, .int x1, .int x2, .int x3, .ref 66] (H, z) (.inr (some (.int x.1)), (H', zX x.2.1 z)) ∧ H'[10]? = some (.inl (1, 8, .inr (.inl x.2.2.1))) ∧ H'[11]? = some (.inl (1, 8, .inr (.inl x.2.2.2.1))) ∧ H'[14]? = some (.inr (3, [.long x.2.2.2.2.1, .long x.2.2.2.2.2.1])) ∧ H'[66]? = some (.inl (1, 1, .inr (.inl x.2.2.2.2.2.2))) ∧ xfr [10, 11, 14, 66] H H' := by
  have G : Go S (d + 4) 279 (0, [some (.ref 0), some (.int x1), some (.int x2), some (.int x3), some (.ref 66), none], []) (H, z) (fun _ _ => False) (fun r => ∃ H' : List xE, r = (.inr (some (.int x.1)), (H', zX x.2.1 z)) ∧ H'[10]? = some (.inl (1, 8, .inr (.inl x.2.2.1))) ∧ H'[11]? = some (.inl (1, 8, .inr (.inl x.2.2.2.1))) ∧ H'[14]? = some (.inr (3, [.long x.2.2.2.2.1, .long x.2.2.2.2.2.1])) ∧ H'[66]? = some (.inl (1, 1, .inr (.inl x.2.2.2.2.2.2))) ∧ xfr [10, 11, 14, 66] H H') := by
    unfold q_L_polynomial at h
    refine go_step (fun _ => ev_run 6 (F' := (7, [some (.ref 0), some (.int x1), some (.int x2), some (.int x3), some (.ref 66), none], [.int x3, .int x2, .int x1, .ref 0, .int (0 : Int32), .ref 66])) rfl) ?_
    rcases okx h with ⟨e2, y1, hy1, h⟩ | ⟨v3, y4, hy4, h⟩
    · skip
      obtain ⟨H5, hCH5, eH5_10, eH5_11, eH5_14, fH5⟩ := C_X11_polynomial (S := S) (d := d) (z := z) (x1 := x1) (x2 := x2) (x3 := x3) u_0 u_10 u_11 u_14 hy1
      by_cases s2 : e2 = 2
      · have h := (if_pos s2).symm.trans h
        subst s2
        refine go_step (F1 := (17, [some (.ref 0), some (.int x1), some (.int x2), some (.int x3), some (.ref 66), none], [])) (M1 := (H5, (false, z.2.1 + 1, z.2.2 + 6))) (fun _ => ev_callVC (x := (.invokevirtual 63, 3, 118, 10, 838, .null)) (as := [.int x1, .int x2, .int x3]) (rest := [.int (0 : Int32), .ref 66]) rfl rfl u_0 rfl rfl hCH5 rfl) ?_
        refine go_step (fun _ => ev_run 1 (F' := (18, [some (.ref 0), some (.int x1), some (.int x2), some (.int x3), some (.ref 66), none], [.int (1 : Int32)])) rfl) ?_
        cases h
        exact Or.inr ⟨_, ev_ret rfl rfl rfl rfl, H5, rfl, eH5_10, eH5_11, eH5_14, ((fH5 66 rfl).trans u_66), (xfr_t xfr_refl rfl fH5)⟩
      · have h := (if_neg s2).symm.trans h
        cases h
    · skip
      obtain ⟨H6, hCH6, eH6_10, eH6_11, eH6_14, fH6⟩ := C_X11_polynomial (S := S) (d := d) (z := z) (x1 := x1) (x2 := x2) (x3 := x3) u_0 u_10 u_11 u_14 hy4
      refine go_step (F1 := (10, [some (.ref 0), some (.int x1), some (.int x2), some (.int x3), some (.ref 66), none], [.int v3, .int (0 : Int32), .ref 66])) (M1 := (H6, z)) (fun _ => ev_callV (x := (.invokevirtual 63, 3, 118, 10, 838, .null)) (as := [.int x1, .int x2, .int x3]) (rest := [.int (0 : Int32), .ref 66]) rfl rfl u_0 hCH6 rfl) ?_
      refine go_step (fun _ => ev_run 1 (F' := (11, [some (.ref 0), some (.int x1), some (.int x2), some (.int x3), some (.ref 66), none], [.long (v3.toInt64), .int (0 : Int32), .ref 66])) rfl) ?_
      refine go_last rfl ((fH6 66 rfl).trans u_66) rfl (fun H7 (eH7 : H7[66]? = some (.inl (1, 1, .inr (.inl (vp_updL a66 (0 : Int32).toNatClampNeg (v3.toInt64)))))) fH7 => ?_)
      refine go_step (fun _ => ev_run 2 (F' := (20, [some (.ref 0), some (.int x1), some (.int x2), some (.int x3), some (.ref 66), none], [.int (0 : Int32)])) rfl) ?_
      cases h
      exact Or.inr ⟨_, ev_ret rfl rfl rfl rfl, H7, rfl, ((fH7 10 rfl).trans eH6_10), ((fH7 11 rfl).trans eH6_11), ((fH7 14 rfl).trans eH6_14), eH7, (xfr_t (xfr_t xfr_refl rfl fH6) rfl fH7)⟩
  obtain ⟨_, hE, H', rfl, hrest⟩ := go_end G
  exact ⟨H', hE, hrest⟩
def q_L_ofKind (x1 : Int32) (a10 : Nat → Int64) (a11 : Nat → Int64) (c8_0 : Int32) (c8_1 : Int32) (c14_0 : Int64) (c14_1 : Int64) (a66 : Nat → Int64) : Option (Int32 × Bool × (Nat → Int64) × (Nat → Int64) × Int64 × Int64 × (Nat → Int64)) := (xbnd (q_X11_ofKind x1 a10 a11 c8_0 c8_1 c14_0 c14_1) (fun e2 y1 => (if e2 = 2 then (some ((1 : Int32), true, y1.1, y1.2.1, y1.2.2.1, y1.2.2.2, a66)) else none)) (fun v3 y4 => (some ((0 : Int32), false, y4.1, y4.2.1, y4.2.2.1, y4.2.2.2, (vp_updL a66 (0 : Int32).toNatClampNeg (v3.toInt64))))))
theorem C_L_ofKind {S : Nat × (Nat → Int32)} {d : Nat} {H : List xE} {z : Bool × Nat × Nat} {a10 : Nat → Int64} {a11 : Nat → Int64} {c8_0 : Int32} {c8_1 : Int32} {c8_2 : Int32} {c8_3 : Int32} {c8_4 : Int32} {c8_5 : Int32} {c14_0 : Int64} {c14_1 : Int64} {a66 : Nat → Int64} {x1 : Int32} (u_10 : H[10]? = some (.inl (1, 8, .inr (.inl a10)))) (u_11 : H[11]? = some (.inl (1, 8, .inr (.inl a11)))) (u_8 : H[8]? = some (.inr (1, [.int c8_0, .int c8_1, .int c8_2, .int c8_3, .int c8_4, .int c8_5]))) (u_14 : H[14]? = some (.inr (3, [.long c14_0, .long c14_1]))) (u_0 : H[0]? = some (oO)) (u_66 : H[66]? = some (.inl (1, 1, .inr (.inl a66)))) {x : (Int32 × Bool × (Nat → Int64) × (Nat → Int64) × Int64 × Int64 × (Nat → Int64))} (h : q_L_ofKind x1 a10 a11 c8_0 c8_1 c14_0 c14_1 a66 = some x) : ∃ H' : List xE, Cm S (d + 4) 280 [.ref 0, .int x1, .ref 66] (H, z) (.inr (some (.int x.1)), (H', zX x.2.1 z)) ∧ H'[10]? = some (.inl (1, 8, .inr (.inl x.2.2.1))) ∧ H'[11]? = some (.inl (1, 8, .inr (.inl x.2.2.2.1))) ∧ H'[14]? = some (.inr (3, [.long x.2.2.2.2.1, .long x.2.2.2.2.2.1])) ∧ H'[66]? = some (.inl (1, 1, .inr (.inl x.2.2.2.2.2.2))) ∧ xfr [10, 11, 14, 66] H H' := by
  have G : Go S (d + 4) 280 (0, [some (.ref 0), some (.int x1), some (.ref 66), none], []) (H, z) (fun _ _ => False) (fun r => ∃ H' : List xE, r = (.inr (some (.int x.1)), (H', zX x.2.1 z)) ∧ H'[10]? = some (.inl (1, 8, .inr (.inl x.2.2.1))) ∧ H'[11]? = some (.inl (1, 8, .inr (.inl x.2.2.2.1))) ∧ H'[14]? = some (.inr (3, [.long x.2.2.2.2.1, .long x.2.2.2.2.2.1])) ∧ H'[66]? = some (.inl (1, 1, .inr (.inl x.2.2.2.2.2.2))) ∧ xfr [10, 11, 14, 66] H H') := by
    unfold q_L_ofKind at h
    refine go_step (fun _ => ev_run 4 (F' := (4, [some (.ref 0), some (.int x1), some (.ref 66), none], [.int x1, .ref 0, .int (0 : Int32), .ref 66])) rfl) ?_
    rcases okx h with ⟨e2, y1, hy1, h⟩ | ⟨v3, y4, hy4, h⟩
    · skip
      obtain ⟨H5, hCH5, eH5_10, eH5_11, eH5_14, fH5⟩ := C_X11_ofKind (S := S) (d := d) (z := z) (x1 := x1) u_0 u_10 u_11 u_8 u_14 hy1
      by_cases s2 : e2 = 2
      · have h := (if_pos s2).symm.trans h
        subst s2
        refine go_step (F1 := (13, [some (.ref 0), some (.int x1), some (.ref 66), none], [])) (M1 := (H5, (false, z.2.1 + 1, z.2.2 + 6))) (fun _ => ev_callVC (x := (.invokevirtual 67, 3, 119, 10, 870, .null)) (as := [.int x1]) (rest := [.int (0 : Int32), .ref 66]) rfl rfl u_0 rfl rfl hCH5 rfl) ?_
        refine go_step (fun _ => ev_run 1 (F' := (14, [some (.ref 0), some (.int x1), some (.ref 66), none], [.int (1 : Int32)])) rfl) ?_
        cases h
        exact Or.inr ⟨_, ev_ret rfl rfl rfl rfl, H5, rfl, eH5_10, eH5_11, eH5_14, ((fH5 66 rfl).trans u_66), (xfr_t xfr_refl rfl fH5)⟩
      · have h := (if_neg s2).symm.trans h
        cases h
    · skip
      obtain ⟨H6, hCH6, eH6_10, eH6_11, eH6_14, fH6⟩ := C_X11_ofKind (S := S) (d := d) (z := z) (x1 := x1) u_0 u_10 u_11 u_8 u_14 hy4
      refine go_step (F1 := (7, [some (.ref 0), some (.int x1), some (.ref 66), none], [.int v3, .int (0 : Int32), .ref 66])) (M1 := (H6, z)) (fun _ => ev_callV (x := (.invokevirtual 67, 3, 119, 10, 870, .null)) (as := [.int x1]) (rest := [.int (0 : Int32), .ref 66]) rfl rfl u_0 hCH6 rfl) ?_
      refine go_step (fun _ => ev_run 1 (F' := (8, [some (.ref 0), some (.int x1), some (.ref 66), none], [.long (v3.toInt64), .int (0 : Int32), .ref 66])) rfl) ?_
      refine go_last rfl ((fH6 66 rfl).trans u_66) rfl (fun H7 (eH7 : H7[66]? = some (.inl (1, 1, .inr (.inl (vp_updL a66 (0 : Int32).toNatClampNeg (v3.toInt64)))))) fH7 => ?_)
      refine go_step (fun _ => ev_run 2 (F' := (16, [some (.ref 0), some (.int x1), some (.ref 66), none], [.int (0 : Int32)])) rfl) ?_
      cases h
      exact Or.inr ⟨_, ev_ret rfl rfl rfl rfl, H7, rfl, ((fH7 10 rfl).trans eH6_10), ((fH7 11 rfl).trans eH6_11), ((fH7 14 rfl).trans eH6_14), eH7, (xfr_t (xfr_t xfr_refl rfl fH6) rfl fH7)⟩
  obtain ⟨_, hE, H', rfl, hrest⟩ := go_end G
  exact ⟨H', hE, hrest⟩
def q_L_bits (x1 : Int32) (x2 : Int32) (a10 : Nat → Int64) (a11 : Nat → Int64) (c12_0 : Int64) (c12_1 : Int64) (a66 : Nat → Int64) : Option (Int32 × Bool × Int64 × Int64 × (Nat → Int64)) := (xbnd (q_X11_bits x1 x2 a10 a11 c12_0 c12_1) (fun e2 y1 => (if e2 = 2 then (some ((1 : Int32), true, y1.1, y1.2, a66)) else if e2 = 0 then (some ((2 : Int32), true, y1.1, y1.2, a66)) else none)) (fun v3 y4 => (some ((0 : Int32), false, y4.1, y4.2, (vp_updL a66 (0 : Int32).toNatClampNeg (v3.toInt64))))))
theorem C_L_bits {S : Nat × (Nat → Int32)} {d : Nat} {H : List xE} {z : Bool × Nat × Nat} {a10 : Nat → Int64} {a11 : Nat → Int64} {c12_0 : Int64} {c12_1 : Int64} {a66 : Nat → Int64} {x1 : Int32} {x2 : Int32} (u_10 : H[10]? = some (.inl (1, 8, .inr (.inl a10)))) (u_11 : H[11]? = some (.inl (1, 8, .inr (.inl a11)))) (u_12 : H[12]? = some (.inr (3, [.long c12_0, .long c12_1]))) (u_0 : H[0]? = some (oO)) (u_66 : H[66]? = some (.inl (1, 1, .inr (.inl a66)))) {x : (Int32 × Bool × Int64 × Int64 × (Nat → Int64))} (h : q_L_bits x1 x2 a10 a11 c12_0 c12_1 a66 = some x) : ∃ H' : List xE, Cm S (d + 3) 281 [.ref 0, .int x1, .int x2, .ref 66] (H, z) (.inr (some (.int x.1)), (H', zX x.2.1 z)) ∧ H'[12]? = some (.inr (3, [.long x.2.2.1, .long x.2.2.2.1])) ∧ H'[66]? = some (.inl (1, 1, .inr (.inl x.2.2.2.2))) ∧ xfr [12, 66] H H' := by
  have G : Go S (d + 3) 281 (0, [some (.ref 0), some (.int x1), some (.int x2), some (.ref 66), none], []) (H, z) (fun _ _ => False) (fun r => ∃ H' : List xE, r = (.inr (some (.int x.1)), (H', zX x.2.1 z)) ∧ H'[12]? = some (.inr (3, [.long x.2.2.1, .long x.2.2.2.1])) ∧ H'[66]? = some (.inl (1, 1, .inr (.inl x.2.2.2.2))) ∧ xfr [12, 66] H H') := by
    unfold q_L_bits at h
    refine go_step (fun _ => ev_run 5 (F' := (5, [some (.ref 0), some (.int x1), some (.int x2), some (.ref 66), none], [.int x2, .int x1, .ref 0, .int (0 : Int32), .ref 66])) rfl) ?_
    rcases okx h with ⟨e2, y1, hy1, h⟩ | ⟨v3, y4, hy4, h⟩
    · skip
      obtain ⟨H5, hCH5, eH5_12, fH5⟩ := C_X11_bits (S := S) (d := d) (z := z) (x1 := x1) (x2 := x2) u_0 u_10 u_11 u_12 hy1
      by_cases s2 : e2 = 2
      · have h := (if_pos s2).symm.trans h
        subst s2
        refine go_step (F1 := (15, [some (.ref 0), some (.int x1), some (.int x2), some (.ref 66), none], [])) (M1 := (H5, (false, z.2.1 + 1, z.2.2 + 6))) (fun _ => ev_callVC (x := (.invokevirtual 70, 3, 120, 10, 881, .null)) (as := [.int x1, .int x2]) (rest := [.int (0 : Int32), .ref 66]) rfl rfl u_0 rfl rfl hCH5 rfl) ?_
        refine go_step (fun _ => ev_run 1 (F' := (16, [some (.ref 0), some (.int x1), some (.int x2), some (.ref 66), none], [.int (1 : Int32)])) rfl) ?_
        cases h
        exact Or.inr ⟨_, ev_ret rfl rfl rfl rfl, H5, rfl, eH5_12, ((fH5 66 rfl).trans u_66), (xfr_t xfr_refl rfl fH5)⟩
      · have h := (if_neg s2).symm.trans h
        by_cases s0 : e2 = 0
        · have h := (if_pos s0).symm.trans h
          subst s0
          refine go_step (F1 := (19, [some (.ref 0), some (.int x1), some (.int x2), some (.ref 66), none], [])) (M1 := (H5, (false, z.2.1 + 1, z.2.2 + 6))) (fun _ => ev_callVC (x := (.invokevirtual 70, 3, 120, 10, 881, .null)) (as := [.int x1, .int x2]) (rest := [.int (0 : Int32), .ref 66]) rfl rfl u_0 rfl rfl hCH5 rfl) ?_
          refine go_step (fun _ => ev_run 1 (F' := (20, [some (.ref 0), some (.int x1), some (.int x2), some (.ref 66), none], [.int (2 : Int32)])) rfl) ?_
          cases h
          exact Or.inr ⟨_, ev_ret rfl rfl rfl rfl, H5, rfl, eH5_12, ((fH5 66 rfl).trans u_66), (xfr_t xfr_refl rfl fH5)⟩
        · have h := (if_neg s0).symm.trans h
          cases h
    · skip
      obtain ⟨H6, hCH6, eH6_12, fH6⟩ := C_X11_bits (S := S) (d := d) (z := z) (x1 := x1) (x2 := x2) u_0 u_10 u_11 u_12 hy4
      refine go_step (F1 := (8, [some (.ref 0), some (.int x1), some (.int x2), some (.ref 66), none], [.int v3, .int (0 : Int32), .ref 66])) (M1 := (H6, z)) (fun _ => ev_callV (x := (.invokevirtual 70, 3, 120, 10, 881, .null)) (as := [.int x1, .int x2]) (rest := [.int (0 : Int32), .ref 66]) rfl rfl u_0 hCH6 rfl) ?_
      refine go_step (fun _ => ev_run 1 (F' := (9, [some (.ref 0), some (.int x1), some (.int x2), some (.ref 66), none], [.long (v3.toInt64), .int (0 : Int32), .ref 66])) rfl) ?_
      refine go_last rfl ((fH6 66 rfl).trans u_66) rfl (fun H7 (eH7 : H7[66]? = some (.inl (1, 1, .inr (.inl (vp_updL a66 (0 : Int32).toNatClampNeg (v3.toInt64)))))) fH7 => ?_)
      refine go_step (fun _ => ev_run 2 (F' := (22, [some (.ref 0), some (.int x1), some (.int x2), some (.ref 66), none], [.int (0 : Int32)])) rfl) ?_
      cases h
      exact Or.inr ⟨_, ev_ret rfl rfl rfl rfl, H7, rfl, ((fH7 12 rfl).trans eH6_12), eH7, (xfr_t (xfr_t xfr_refl rfl fH6) rfl fH7)⟩
  obtain ⟨_, hE, H', rfl, hrest⟩ := go_end G
  exact ⟨H', hE, hrest⟩
def q_L_join (x1 : Int32) (x2 : Int32) (x3 : Int32) (x4 : Int32) (a10 : Nat → Int64) (a11 : Nat → Int64) (c12_0 : Int64) (c12_1 : Int64) (c13_0 : Int64) (c13_1 : Int64) (c14_0 : Int64) (c14_1 : Int64) (a66 : Nat → Int64) : Option (Int32 × Bool × (Nat → Int64) × (Nat → Int64) × Int64 × Int64 × Int64 × Int64 × Int64 × Int64 × (Nat → Int64)) := (xbnd (q_X11_join x1 x2 x3 x4 a10 a11 c12_0 c12_1 c13_0 c13_1 c14_0 c14_1) (fun e2 y1 => (if e2 = 2 then (some ((1 : Int32), true, y1.1, y1.2.1, y1.2.2.1, y1.2.2.2.1, y1.2.2.2.2.1, y1.2.2.2.2.2.1, y1.2.2.2.2.2.2.1, y1.2.2.2.2.2.2.2, a66)) else if e2 = 1 then (some ((2 : Int32), true, y1.1, y1.2.1, y1.2.2.1, y1.2.2.2.1, y1.2.2.2.2.1, y1.2.2.2.2.2.1, y1.2.2.2.2.2.2.1, y1.2.2.2.2.2.2.2, a66)) else none)) (fun v3 y4 => (some ((0 : Int32), false, y4.1, y4.2.1, y4.2.2.1, y4.2.2.2.1, y4.2.2.2.2.1, y4.2.2.2.2.2.1, y4.2.2.2.2.2.2.1, y4.2.2.2.2.2.2.2, (vp_updL a66 (0 : Int32).toNatClampNeg (v3.toInt64))))))
theorem C_L_join {S : Nat × (Nat → Int32)} {d : Nat} {H : List xE} {z : Bool × Nat × Nat} {a10 : Nat → Int64} {a11 : Nat → Int64} {c12_0 : Int64} {c12_1 : Int64} {c13_0 : Int64} {c13_1 : Int64} {c14_0 : Int64} {c14_1 : Int64} {a66 : Nat → Int64} {x1 : Int32} {x2 : Int32} {x3 : Int32} {x4 : Int32} (u_10 : H[10]? = some (.inl (1, 8, .inr (.inl a10)))) (u_11 : H[11]? = some (.inl (1, 8, .inr (.inl a11)))) (u_12 : H[12]? = some (.inr (3, [.long c12_0, .long c12_1]))) (u_13 : H[13]? = some (.inr (3, [.long c13_0, .long c13_1]))) (u_14 : H[14]? = some (.inr (3, [.long c14_0, .long c14_1]))) (u_0 : H[0]? = some (oO)) (u_66 : H[66]? = some (.inl (1, 1, .inr (.inl a66)))) {x : (Int32 × Bool × (Nat → Int64) × (Nat → Int64) × Int64 × Int64 × Int64 × Int64 × Int64 × Int64 × (Nat → Int64))} (h : q_L_join x1 x2 x3 x4 a10 a11 c12_0 c12_1 c13_0 c13_1 c14_0 c14_1 a66 = some x) : ∃ H' : List xE, Cm S (d + 4) 282 [.ref 0, .int x1, .int x2, .int x3, .int x4, .ref 66] (H, z) (.inr (some (.int x.1)), (H', zX x.2.1 z)) ∧ H'[10]? = some (.inl (1, 8, .inr (.inl x.2.2.1))) ∧ H'[11]? = some (.inl (1, 8, .inr (.inl x.2.2.2.1))) ∧ H'[12]? = some (.inr (3, [.long x.2.2.2.2.1, .long x.2.2.2.2.2.1])) ∧ H'[13]? = some (.inr (3, [.long x.2.2.2.2.2.2.1, .long x.2.2.2.2.2.2.2.1])) ∧ H'[14]? = some (.inr (3, [.long x.2.2.2.2.2.2.2.2.1, .long x.2.2.2.2.2.2.2.2.2.1])) ∧ H'[66]? = some (.inl (1, 1, .inr (.inl x.2.2.2.2.2.2.2.2.2.2))) ∧ xfr [10, 11, 12, 13, 14, 66] H H' := by
  have G : Go S (d + 4) 282 (0, [some (.ref 0), some (.int x1), some (.int x2), some (.int x3), some (.int x4), some (.ref 66), none], []) (H, z) (fun _ _ => False) (fun r => ∃ H' : List xE, r = (.inr (some (.int x.1)), (H', zX x.2.1 z)) ∧ H'[10]? = some (.inl (1, 8, .inr (.inl x.2.2.1))) ∧ H'[11]? = some (.inl (1, 8, .inr (.inl x.2.2.2.1))) ∧ H'[12]? = some (.inr (3, [.long x.2.2.2.2.1, .long x.2.2.2.2.2.1])) ∧ H'[13]? = some (.inr (3, [.long x.2.2.2.2.2.2.1, .long x.2.2.2.2.2.2.2.1])) ∧ H'[14]? = some (.inr (3, [.long x.2.2.2.2.2.2.2.2.1, .long x.2.2.2.2.2.2.2.2.2.1])) ∧ H'[66]? = some (.inl (1, 1, .inr (.inl x.2.2.2.2.2.2.2.2.2.2))) ∧ xfr [10, 11, 12, 13, 14, 66] H H') := by
    unfold q_L_join at h
    refine go_step (fun _ => ev_run 7 (F' := (9, [some (.ref 0), some (.int x1), some (.int x2), some (.int x3), some (.int x4), some (.ref 66), none], [.int x4, .int x3, .int x2, .int x1, .ref 0, .int (0 : Int32), .ref 66])) rfl) ?_
    rcases okx h with ⟨e2, y1, hy1, h⟩ | ⟨v3, y4, hy4, h⟩
    · skip
      obtain ⟨H5, hCH5, eH5_10, eH5_11, eH5_12, eH5_13, eH5_14, fH5⟩ := C_X11_join (S := S) (d := d) (z := z) (x1 := x1) (x2 := x2) (x3 := x3) (x4 := x4) u_0 u_10 u_11 u_12 u_13 u_14 hy1
      by_cases s2 : e2 = 2
      · have h := (if_pos s2).symm.trans h
        subst s2
        refine go_step (F1 := (19, [some (.ref 0), some (.int x1), some (.int x2), some (.int x3), some (.int x4), some (.ref 66), none], [])) (M1 := (H5, (false, z.2.1 + 1, z.2.2 + 6))) (fun _ => ev_callVC (x := (.invokevirtual 73, 3, 121, 10, 897, .null)) (as := [.int x1, .int x2, .int x3, .int x4]) (rest := [.int (0 : Int32), .ref 66]) rfl rfl u_0 rfl rfl hCH5 rfl) ?_
        refine go_step (fun _ => ev_run 1 (F' := (20, [some (.ref 0), some (.int x1), some (.int x2), some (.int x3), some (.int x4), some (.ref 66), none], [.int (1 : Int32)])) rfl) ?_
        cases h
        exact Or.inr ⟨_, ev_ret rfl rfl rfl rfl, H5, rfl, eH5_10, eH5_11, eH5_12, eH5_13, eH5_14, ((fH5 66 rfl).trans u_66), (xfr_t xfr_refl rfl fH5)⟩
      · have h := (if_neg s2).symm.trans h
        by_cases s1 : e2 = 1
        · have h := (if_pos s1).symm.trans h
          subst s1
          refine go_step (F1 := (23, [some (.ref 0), some (.int x1), some (.int x2), some (.int x3), some (.int x4), some (.ref 66), none], [])) (M1 := (H5, (false, z.2.1 + 1, z.2.2 + 6))) (fun _ => ev_callVC (x := (.invokevirtual 73, 3, 121, 10, 897, .null)) (as := [.int x1, .int x2, .int x3, .int x4]) (rest := [.int (0 : Int32), .ref 66]) rfl rfl u_0 rfl rfl hCH5 rfl) ?_
          refine go_step (fun _ => ev_run 1 (F' := (24, [some (.ref 0), some (.int x1), some (.int x2), some (.int x3), some (.int x4), some (.ref 66), none], [.int (2 : Int32)])) rfl) ?_
          cases h
          exact Or.inr ⟨_, ev_ret rfl rfl rfl rfl, H5, rfl, eH5_10, eH5_11, eH5_12, eH5_13, eH5_14, ((fH5 66 rfl).trans u_66), (xfr_t xfr_refl rfl fH5)⟩
        · have h := (if_neg s1).symm.trans h
          cases h
    · skip
      obtain ⟨H6, hCH6, eH6_10, eH6_11, eH6_12, eH6_13, eH6_14, fH6⟩ := C_X11_join (S := S) (d := d) (z := z) (x1 := x1) (x2 := x2) (x3 := x3) (x4 := x4) u_0 u_10 u_11 u_12 u_13 u_14 hy4
      refine go_step (F1 := (12, [some (.ref 0), some (.int x1), some (.int x2), some (.int x3), some (.int x4), some (.ref 66), none], [.int v3, .int (0 : Int32), .ref 66])) (M1 := (H6, z)) (fun _ => ev_callV (x := (.invokevirtual 73, 3, 121, 10, 897, .null)) (as := [.int x1, .int x2, .int x3, .int x4]) (rest := [.int (0 : Int32), .ref 66]) rfl rfl u_0 hCH6 rfl) ?_
      refine go_step (fun _ => ev_run 1 (F' := (13, [some (.ref 0), some (.int x1), some (.int x2), some (.int x3), some (.int x4), some (.ref 66), none], [.long (v3.toInt64), .int (0 : Int32), .ref 66])) rfl) ?_
      refine go_last rfl ((fH6 66 rfl).trans u_66) rfl (fun H7 (eH7 : H7[66]? = some (.inl (1, 1, .inr (.inl (vp_updL a66 (0 : Int32).toNatClampNeg (v3.toInt64)))))) fH7 => ?_)
      refine go_step (fun _ => ev_run 2 (F' := (26, [some (.ref 0), some (.int x1), some (.int x2), some (.int x3), some (.int x4), some (.ref 66), none], [.int (0 : Int32)])) rfl) ?_
      cases h
      exact Or.inr ⟨_, ev_ret rfl rfl rfl rfl, H7, rfl, ((fH7 10 rfl).trans eH6_10), ((fH7 11 rfl).trans eH6_11), ((fH7 12 rfl).trans eH6_12), ((fH7 13 rfl).trans eH6_13), ((fH7 14 rfl).trans eH6_14), eH7, (xfr_t (xfr_t xfr_refl rfl fH6) rfl fH7)⟩
  obtain ⟨_, hE, H', rfl, hrest⟩ := go_end G
  exact ⟨H', hE, hrest⟩
def q_L_divide (x1 : Int32) (x2 : Int32) (x3 : Int32) (x4 : Int32) (a10 : Nat → Int64) (a11 : Nat → Int64) (c12_0 : Int64) (c12_1 : Int64) (c13_0 : Int64) (c13_1 : Int64) (c14_0 : Int64) (c14_1 : Int64) (a66 : Nat → Int64) : Option (Int32 × Bool × (Nat → Int64) × (Nat → Int64) × Int64 × Int64 × Int64 × Int64 × Int64 × Int64 × (Nat → Int64)) := (xbnd (q_X11_divide x1 x2 x3 x4 a10 a11 c12_0 c12_1 c13_0 c13_1 c14_0 c14_1) (fun e2 y1 => (if e2 = 2 then (some ((1 : Int32), true, y1.1, y1.2.1, y1.2.2.1, y1.2.2.2.1, y1.2.2.2.2.1, y1.2.2.2.2.2.1, y1.2.2.2.2.2.2.1, y1.2.2.2.2.2.2.2, a66)) else if e2 = 0 then (some ((2 : Int32), true, y1.1, y1.2.1, y1.2.2.1, y1.2.2.2.1, y1.2.2.2.2.1, y1.2.2.2.2.2.1, y1.2.2.2.2.2.2.1, y1.2.2.2.2.2.2.2, a66)) else if e2 = 4 then (some ((3 : Int32), true, y1.1, y1.2.1, y1.2.2.1, y1.2.2.2.1, y1.2.2.2.2.1, y1.2.2.2.2.2.1, y1.2.2.2.2.2.2.1, y1.2.2.2.2.2.2.2, a66)) else none)) (fun v3 y4 => (some ((0 : Int32), false, y4.1, y4.2.1, y4.2.2.1, y4.2.2.2.1, y4.2.2.2.2.1, y4.2.2.2.2.2.1, y4.2.2.2.2.2.2.1, y4.2.2.2.2.2.2.2, (vp_updL a66 (0 : Int32).toNatClampNeg (v3.toInt64))))))
theorem C_L_divide {S : Nat × (Nat → Int32)} {d : Nat} {H : List xE} {z : Bool × Nat × Nat} {a10 : Nat → Int64} {a11 : Nat → Int64} {c12_0 : Int64} {c12_1 : Int64} {c13_0 : Int64} {c13_1 : Int64} {c14_0 : Int64} {c14_1 : Int64} {a66 : Nat → Int64} {x1 : Int32} {x2 : Int32} {x3 : Int32} {x4 : Int32} (u_10 : H[10]? = some (.inl (1, 8, .inr (.inl a10)))) (u_11 : H[11]? = some (.inl (1, 8, .inr (.inl a11)))) (u_12 : H[12]? = some (.inr (3, [.long c12_0, .long c12_1]))) (u_13 : H[13]? = some (.inr (3, [.long c13_0, .long c13_1]))) (u_14 : H[14]? = some (.inr (3, [.long c14_0, .long c14_1]))) (u_0 : H[0]? = some (oO)) (u_66 : H[66]? = some (.inl (1, 1, .inr (.inl a66)))) {x : (Int32 × Bool × (Nat → Int64) × (Nat → Int64) × Int64 × Int64 × Int64 × Int64 × Int64 × Int64 × (Nat → Int64))} (h : q_L_divide x1 x2 x3 x4 a10 a11 c12_0 c12_1 c13_0 c13_1 c14_0 c14_1 a66 = some x) : ∃ H' : List xE, Cm S (d + 4) 283 [.ref 0, .int x1, .int x2, .int x3, .int x4, .ref 66] (H, z) (.inr (some (.int x.1)), (H', zX x.2.1 z)) ∧ H'[10]? = some (.inl (1, 8, .inr (.inl x.2.2.1))) ∧ H'[11]? = some (.inl (1, 8, .inr (.inl x.2.2.2.1))) ∧ H'[12]? = some (.inr (3, [.long x.2.2.2.2.1, .long x.2.2.2.2.2.1])) ∧ H'[13]? = some (.inr (3, [.long x.2.2.2.2.2.2.1, .long x.2.2.2.2.2.2.2.1])) ∧ H'[14]? = some (.inr (3, [.long x.2.2.2.2.2.2.2.2.1, .long x.2.2.2.2.2.2.2.2.2.1])) ∧ H'[66]? = some (.inl (1, 1, .inr (.inl x.2.2.2.2.2.2.2.2.2.2))) ∧ xfr [10, 11, 12, 13, 14, 66] H H' := by
  have G : Go S (d + 4) 283 (0, [some (.ref 0), some (.int x1), some (.int x2), some (.int x3), some (.int x4), some (.ref 66), none], []) (H, z) (fun _ _ => False) (fun r => ∃ H' : List xE, r = (.inr (some (.int x.1)), (H', zX x.2.1 z)) ∧ H'[10]? = some (.inl (1, 8, .inr (.inl x.2.2.1))) ∧ H'[11]? = some (.inl (1, 8, .inr (.inl x.2.2.2.1))) ∧ H'[12]? = some (.inr (3, [.long x.2.2.2.2.1, .long x.2.2.2.2.2.1])) ∧ H'[13]? = some (.inr (3, [.long x.2.2.2.2.2.2.1, .long x.2.2.2.2.2.2.2.1])) ∧ H'[14]? = some (.inr (3, [.long x.2.2.2.2.2.2.2.2.1, .long x.2.2.2.2.2.2.2.2.2.1])) ∧ H'[66]? = some (.inl (1, 1, .inr (.inl x.2.2.2.2.2.2.2.2.2.2))) ∧ xfr [10, 11, 12, 13, 14, 66] H H') := by
    unfold q_L_divide at h
    refine go_step (fun _ => ev_run 7 (F' := (9, [some (.ref 0), some (.int x1), some (.int x2), some (.int x3), some (.int x4), some (.ref 66), none], [.int x4, .int x3, .int x2, .int x1, .ref 0, .int (0 : Int32), .ref 66])) rfl) ?_
    rcases okx h with ⟨e2, y1, hy1, h⟩ | ⟨v3, y4, hy4, h⟩
    · skip
      obtain ⟨H5, hCH5, eH5_10, eH5_11, eH5_12, eH5_13, eH5_14, fH5⟩ := C_X11_divide (S := S) (d := d) (z := z) (x1 := x1) (x2 := x2) (x3 := x3) (x4 := x4) u_0 u_10 u_11 u_12 u_13 u_14 hy1
      by_cases s2 : e2 = 2
      · have h := (if_pos s2).symm.trans h
        subst s2
        refine go_step (F1 := (19, [some (.ref 0), some (.int x1), some (.int x2), some (.int x3), some (.int x4), some (.ref 66), none], [])) (M1 := (H5, (false, z.2.1 + 1, z.2.2 + 6))) (fun _ => ev_callVC (x := (.invokevirtual 77, 3, 122, 10, 936, .null)) (as := [.int x1, .int x2, .int x3, .int x4]) (rest := [.int (0 : Int32), .ref 66]) rfl rfl u_0 rfl rfl hCH5 rfl) ?_
        refine go_step (fun _ => ev_run 1 (F' := (20, [some (.ref 0), some (.int x1), some (.int x2), some (.int x3), some (.int x4), some (.ref 66), none], [.int (1 : Int32)])) rfl) ?_
        cases h
        exact Or.inr ⟨_, ev_ret rfl rfl rfl rfl, H5, rfl, eH5_10, eH5_11, eH5_12, eH5_13, eH5_14, ((fH5 66 rfl).trans u_66), (xfr_t xfr_refl rfl fH5)⟩
      · have h := (if_neg s2).symm.trans h
        by_cases s0 : e2 = 0
        · have h := (if_pos s0).symm.trans h
          subst s0
          refine go_step (F1 := (23, [some (.ref 0), some (.int x1), some (.int x2), some (.int x3), some (.int x4), some (.ref 66), none], [])) (M1 := (H5, (false, z.2.1 + 1, z.2.2 + 6))) (fun _ => ev_callVC (x := (.invokevirtual 77, 3, 122, 10, 936, .null)) (as := [.int x1, .int x2, .int x3, .int x4]) (rest := [.int (0 : Int32), .ref 66]) rfl rfl u_0 rfl rfl hCH5 rfl) ?_
          refine go_step (fun _ => ev_run 1 (F' := (24, [some (.ref 0), some (.int x1), some (.int x2), some (.int x3), some (.int x4), some (.ref 66), none], [.int (2 : Int32)])) rfl) ?_
          cases h
          exact Or.inr ⟨_, ev_ret rfl rfl rfl rfl, H5, rfl, eH5_10, eH5_11, eH5_12, eH5_13, eH5_14, ((fH5 66 rfl).trans u_66), (xfr_t xfr_refl rfl fH5)⟩
        · have h := (if_neg s0).symm.trans h
          by_cases s4 : e2 = 4
          · have h := (if_pos s4).symm.trans h
            subst s4
            refine go_step (F1 := (27, [some (.ref 0), some (.int x1), some (.int x2), some (.int x3), some (.int x4), some (.ref 66), none], [])) (M1 := (H5, (false, z.2.1 + 1, z.2.2 + 6))) (fun _ => ev_callVC (x := (.invokevirtual 77, 3, 122, 10, 936, .null)) (as := [.int x1, .int x2, .int x3, .int x4]) (rest := [.int (0 : Int32), .ref 66]) rfl rfl u_0 rfl rfl hCH5 rfl) ?_
            refine go_step (fun _ => ev_run 1 (F' := (28, [some (.ref 0), some (.int x1), some (.int x2), some (.int x3), some (.int x4), some (.ref 66), none], [.int (3 : Int32)])) rfl) ?_
            cases h
            exact Or.inr ⟨_, ev_ret rfl rfl rfl rfl, H5, rfl, eH5_10, eH5_11, eH5_12, eH5_13, eH5_14, ((fH5 66 rfl).trans u_66), (xfr_t xfr_refl rfl fH5)⟩
          · have h := (if_neg s4).symm.trans h
            cases h
    · skip
      obtain ⟨H6, hCH6, eH6_10, eH6_11, eH6_12, eH6_13, eH6_14, fH6⟩ := C_X11_divide (S := S) (d := d) (z := z) (x1 := x1) (x2 := x2) (x3 := x3) (x4 := x4) u_0 u_10 u_11 u_12 u_13 u_14 hy4
      refine go_step (F1 := (12, [some (.ref 0), some (.int x1), some (.int x2), some (.int x3), some (.int x4), some (.ref 66), none], [.int v3, .int (0 : Int32), .ref 66])) (M1 := (H6, z)) (fun _ => ev_callV (x := (.invokevirtual 77, 3, 122, 10, 936, .null)) (as := [.int x1, .int x2, .int x3, .int x4]) (rest := [.int (0 : Int32), .ref 66]) rfl rfl u_0 hCH6 rfl) ?_
      refine go_step (fun _ => ev_run 1 (F' := (13, [some (.ref 0), some (.int x1), some (.int x2), some (.int x3), some (.int x4), some (.ref 66), none], [.long (v3.toInt64), .int (0 : Int32), .ref 66])) rfl) ?_
      refine go_last rfl ((fH6 66 rfl).trans u_66) rfl (fun H7 (eH7 : H7[66]? = some (.inl (1, 1, .inr (.inl (vp_updL a66 (0 : Int32).toNatClampNeg (v3.toInt64)))))) fH7 => ?_)
      refine go_step (fun _ => ev_run 2 (F' := (30, [some (.ref 0), some (.int x1), some (.int x2), some (.int x3), some (.int x4), some (.ref 66), none], [.int (0 : Int32)])) rfl) ?_
      cases h
      exact Or.inr ⟨_, ev_ret rfl rfl rfl rfl, H7, rfl, ((fH7 10 rfl).trans eH6_10), ((fH7 11 rfl).trans eH6_11), ((fH7 12 rfl).trans eH6_12), ((fH7 13 rfl).trans eH6_13), ((fH7 14 rfl).trans eH6_14), eH7, (xfr_t (xfr_t xfr_refl rfl fH6) rfl fH7)⟩
  obtain ⟨_, hE, H', rfl, hrest⟩ := go_end G
  exact ⟨H', hE, hrest⟩
def q_L_common (x1 : Int32) (x2 : Int32) (x3 : Int32) (a10 : Nat → Int64) (a11 : Nat → Int64) (c12_0 : Int64) (c12_1 : Int64) (c13_0 : Int64) (c13_1 : Int64) (c14_0 : Int64) (c14_1 : Int64) (a66 : Nat → Int64) : Option (Int32 × Bool × (Nat → Int64) × (Nat → Int64) × Int64 × Int64 × Int64 × Int64 × Int64 × Int64 × (Nat → Int64)) := (xbnd (q_X11_common x1 x2 x3 a10 a11 c12_0 c12_1 c13_0 c13_1 c14_0 c14_1) (fun e2 y1 => (if e2 = 2 then (some ((1 : Int32), true, y1.1, y1.2.1, y1.2.2.1, y1.2.2.2.1, y1.2.2.2.2.1, y1.2.2.2.2.2.1, y1.2.2.2.2.2.2.1, y1.2.2.2.2.2.2.2, a66)) else none)) (fun v3 y4 => (some ((0 : Int32), false, y4.1, y4.2.1, y4.2.2.1, y4.2.2.2.1, y4.2.2.2.2.1, y4.2.2.2.2.2.1, y4.2.2.2.2.2.2.1, y4.2.2.2.2.2.2.2, (vp_updL a66 (0 : Int32).toNatClampNeg (v3.toInt64))))))
theorem C_L_common {S : Nat × (Nat → Int32)} {d : Nat} {H : List xE} {z : Bool × Nat × Nat} {a10 : Nat → Int64} {a11 : Nat → Int64} {c12_0 : Int64} {c12_1 : Int64} {c13_0 : Int64} {c13_1 : Int64} {c14_0 : Int64} {c14_1 : Int64} {a66 : Nat → Int64} {x1 : Int32} {x2 : Int32} {x3 : Int32} (u_10 : H[10]? = some (.inl (1, 8, .inr (.inl a10)))) (u_11 : H[11]? = some (.inl (1, 8, .inr (.inl a11)))) (u_12 : H[12]? = some (.inr (3, [.long c12_0, .long c12_1]))) (u_13 : H[13]? = some (.inr (3, [.long c13_0, .long c13_1]))) (u_14 : H[14]? = some (.inr (3, [.long c14_0, .long c14_1]))) (u_0 : H[0]? = some (oO)) (u_66 : H[66]? = some (.inl (1, 1, .inr (.inl a66)))) {x : (Int32 × Bool × (Nat → Int64) × (Nat → Int64) × Int64 × Int64 × Int64 × Int64 × Int64 × Int64 × (Nat → Int64))} (h : q_L_common x1 x2 x3 a10 a11 c12_0 c12_1 c13_0 c13_1 c14_0 c14_1 a66 = some x) : ∃ H' : List xE, Cm S (d + 4) 284 [.ref 0, .int x1, .int x2, .int x3, .ref 66] (H, z) (.inr (some (.int x.1)), (H', zX x.2.1 z)) ∧ H'[10]? = some (.inl (1, 8, .inr (.inl x.2.2.1))) ∧ H'[11]? = some (.inl (1, 8, .inr (.inl x.2.2.2.1))) ∧ H'[12]? = some (.inr (3, [.long x.2.2.2.2.1, .long x.2.2.2.2.2.1])) ∧ H'[13]? = some (.inr (3, [.long x.2.2.2.2.2.2.1, .long x.2.2.2.2.2.2.2.1])) ∧ H'[14]? = some (.inr (3, [.long x.2.2.2.2.2.2.2.2.1, .long x.2.2.2.2.2.2.2.2.2.1])) ∧ H'[66]? = some (.inl (1, 1, .inr (.inl x.2.2.2.2.2.2.2.2.2.2))) ∧ xfr [10, 11, 12, 13, 14, 66] H H' := by
  have G : Go S (d + 4) 284 (0, [some (.ref 0), some (.int x1), some (.int x2), some (.int x3), some (.ref 66), none], []) (H, z) (fun _ _ => False) (fun r => ∃ H' : List xE, r = (.inr (some (.int x.1)), (H', zX x.2.1 z)) ∧ H'[10]? = some (.inl (1, 8, .inr (.inl x.2.2.1))) ∧ H'[11]? = some (.inl (1, 8, .inr (.inl x.2.2.2.1))) ∧ H'[12]? = some (.inr (3, [.long x.2.2.2.2.1, .long x.2.2.2.2.2.1])) ∧ H'[13]? = some (.inr (3, [.long x.2.2.2.2.2.2.1, .long x.2.2.2.2.2.2.2.1])) ∧ H'[14]? = some (.inr (3, [.long x.2.2.2.2.2.2.2.2.1, .long x.2.2.2.2.2.2.2.2.2.1])) ∧ H'[66]? = some (.inl (1, 1, .inr (.inl x.2.2.2.2.2.2.2.2.2.2))) ∧ xfr [10, 11, 12, 13, 14, 66] H H') := by
    unfold q_L_common at h
    refine go_step (fun _ => ev_run 6 (F' := (7, [some (.ref 0), some (.int x1), some (.int x2), some (.int x3), some (.ref 66), none], [.int x3, .int x2, .int x1, .ref 0, .int (0 : Int32), .ref 66])) rfl) ?_
    rcases okx h with ⟨e2, y1, hy1, h⟩ | ⟨v3, y4, hy4, h⟩
    · skip
      obtain ⟨H5, hCH5, eH5_10, eH5_11, eH5_12, eH5_13, eH5_14, fH5⟩ := C_X11_common (S := S) (d := d) (z := z) (x1 := x1) (x2 := x2) (x3 := x3) u_0 u_10 u_11 u_12 u_13 u_14 hy1
      by_cases s2 : e2 = 2
      · have h := (if_pos s2).symm.trans h
        subst s2
        refine go_step (F1 := (17, [some (.ref 0), some (.int x1), some (.int x2), some (.int x3), some (.ref 66), none], [])) (M1 := (H5, (false, z.2.1 + 1, z.2.2 + 6))) (fun _ => ev_callVC (x := (.invokevirtual 83, 3, 123, 10, 956, .null)) (as := [.int x1, .int x2, .int x3]) (rest := [.int (0 : Int32), .ref 66]) rfl rfl u_0 rfl rfl hCH5 rfl) ?_
        refine go_step (fun _ => ev_run 1 (F' := (18, [some (.ref 0), some (.int x1), some (.int x2), some (.int x3), some (.ref 66), none], [.int (1 : Int32)])) rfl) ?_
        cases h
        exact Or.inr ⟨_, ev_ret rfl rfl rfl rfl, H5, rfl, eH5_10, eH5_11, eH5_12, eH5_13, eH5_14, ((fH5 66 rfl).trans u_66), (xfr_t xfr_refl rfl fH5)⟩
      · have h := (if_neg s2).symm.trans h
        cases h
    · skip
      obtain ⟨H6, hCH6, eH6_10, eH6_11, eH6_12, eH6_13, eH6_14, fH6⟩ := C_X11_common (S := S) (d := d) (z := z) (x1 := x1) (x2 := x2) (x3 := x3) u_0 u_10 u_11 u_12 u_13 u_14 hy4
      refine go_step (F1 := (10, [some (.ref 0), some (.int x1), some (.int x2), some (.int x3), some (.ref 66), none], [.int v3, .int (0 : Int32), .ref 66])) (M1 := (H6, z)) (fun _ => ev_callV (x := (.invokevirtual 83, 3, 123, 10, 956, .null)) (as := [.int x1, .int x2, .int x3]) (rest := [.int (0 : Int32), .ref 66]) rfl rfl u_0 hCH6 rfl) ?_
      refine go_step (fun _ => ev_run 1 (F' := (11, [some (.ref 0), some (.int x1), some (.int x2), some (.int x3), some (.ref 66), none], [.long (v3.toInt64), .int (0 : Int32), .ref 66])) rfl) ?_
      refine go_last rfl ((fH6 66 rfl).trans u_66) rfl (fun H7 (eH7 : H7[66]? = some (.inl (1, 1, .inr (.inl (vp_updL a66 (0 : Int32).toNatClampNeg (v3.toInt64)))))) fH7 => ?_)
      refine go_step (fun _ => ev_run 2 (F' := (20, [some (.ref 0), some (.int x1), some (.int x2), some (.int x3), some (.ref 66), none], [.int (0 : Int32)])) rfl) ?_
      cases h
      exact Or.inr ⟨_, ev_ret rfl rfl rfl rfl, H7, rfl, ((fH7 10 rfl).trans eH6_10), ((fH7 11 rfl).trans eH6_11), ((fH7 12 rfl).trans eH6_12), ((fH7 13 rfl).trans eH6_13), ((fH7 14 rfl).trans eH6_14), eH7, (xfr_t (xfr_t xfr_refl rfl fH6) rfl fH7)⟩
  obtain ⟨_, hE, H', rfl, hrest⟩ := go_end G
  exact ⟨H', hE, hrest⟩
def q_L_factor (x1 : Int32) (x2 : Int32) (a10 : Nat → Int64) (a11 : Nat → Int64) (c12_0 : Int64) (c12_1 : Int64) (a66 : Nat → Int64) : Option (Int32 × Bool × Int64 × Int64 × (Nat → Int64)) := (xbnd (q_X11_factor x1 x2 a10 a11 c12_0 c12_1) (fun e2 y1 => (if e2 = 2 then (some ((1 : Int32), true, y1.1, y1.2, a66)) else if e2 = 5 then (some ((2 : Int32), true, y1.1, y1.2, a66)) else if e2 = 3 then (some ((3 : Int32), true, y1.1, y1.2, a66)) else none)) (fun v3 y4 => (some ((0 : Int32), false, y4.1, y4.2, (vp_updL a66 (0 : Int32).toNatClampNeg (v3.toInt64))))))
theorem C_L_factor {S : Nat × (Nat → Int32)} {d : Nat} {H : List xE} {z : Bool × Nat × Nat} {a10 : Nat → Int64} {a11 : Nat → Int64} {c12_0 : Int64} {c12_1 : Int64} {a66 : Nat → Int64} {x1 : Int32} {x2 : Int32} (u_10 : H[10]? = some (.inl (1, 8, .inr (.inl a10)))) (u_11 : H[11]? = some (.inl (1, 8, .inr (.inl a11)))) (u_12 : H[12]? = some (.inr (3, [.long c12_0, .long c12_1]))) (u_0 : H[0]? = some (oO)) (u_66 : H[66]? = some (.inl (1, 1, .inr (.inl a66)))) {x : (Int32 × Bool × Int64 × Int64 × (Nat → Int64))} (h : q_L_factor x1 x2 a10 a11 c12_0 c12_1 a66 = some x) : ∃ H' : List xE, Cm S (d + 4) 285 [.ref 0, .int x1, .int x2, .ref 66] (H, z) (.inr (some (.int x.1)), (H', zX x.2.1 z)) ∧ H'[12]? = some (.inr (3, [.long x.2.2.1, .long x.2.2.2.1])) ∧ H'[66]? = some (.inl (1, 1, .inr (.inl x.2.2.2.2))) ∧ xfr [12, 66] H H' := by
  have G : Go S (d + 4) 285 (0, [some (.ref 0), some (.int x1), some (.int x2), some (.ref 66), none], []) (H, z) (fun _ _ => False) (fun r => ∃ H' : List xE, r = (.inr (some (.int x.1)), (H', zX x.2.1 z)) ∧ H'[12]? = some (.inr (3, [.long x.2.2.1, .long x.2.2.2.1])) ∧ H'[66]? = some (.inl (1, 1, .inr (.inl x.2.2.2.2))) ∧ xfr [12, 66] H H') := by
    unfold q_L_factor at h
    refine go_step (fun _ => ev_run 5 (F' := (5, [some (.ref 0), some (.int x1), some (.int x2), some (.ref 66), none], [.int x2, .int x1, .ref 0, .int (0 : Int32), .ref 66])) rfl) ?_
    rcases okx h with ⟨e2, y1, hy1, h⟩ | ⟨v3, y4, hy4, h⟩
    · skip
      obtain ⟨H5, hCH5, eH5_12, fH5⟩ := C_X11_factor (S := S) (d := d) (z := z) (x1 := x1) (x2 := x2) u_10 u_11 u_12 u_0 hy1
      by_cases s2 : e2 = 2
      · have h := (if_pos s2).symm.trans h
        subst s2
        refine go_step (F1 := (15, [some (.ref 0), some (.int x1), some (.int x2), some (.ref 66), none], [])) (M1 := (H5, (false, z.2.1 + 1, z.2.2 + 6))) (fun _ => ev_callVC (x := (.invokevirtual 86, 3, 124, 10, 968, .null)) (as := [.int x1, .int x2]) (rest := [.int (0 : Int32), .ref 66]) rfl rfl u_0 rfl rfl hCH5 rfl) ?_
        refine go_step (fun _ => ev_run 1 (F' := (16, [some (.ref 0), some (.int x1), some (.int x2), some (.ref 66), none], [.int (1 : Int32)])) rfl) ?_
        cases h
        exact Or.inr ⟨_, ev_ret rfl rfl rfl rfl, H5, rfl, eH5_12, ((fH5 66 rfl).trans u_66), (xfr_t xfr_refl rfl fH5)⟩
      · have h := (if_neg s2).symm.trans h
        by_cases s5 : e2 = 5
        · have h := (if_pos s5).symm.trans h
          subst s5
          refine go_step (F1 := (19, [some (.ref 0), some (.int x1), some (.int x2), some (.ref 66), none], [])) (M1 := (H5, (false, z.2.1 + 1, z.2.2 + 6))) (fun _ => ev_callVC (x := (.invokevirtual 86, 3, 124, 10, 968, .null)) (as := [.int x1, .int x2]) (rest := [.int (0 : Int32), .ref 66]) rfl rfl u_0 rfl rfl hCH5 rfl) ?_
          refine go_step (fun _ => ev_run 1 (F' := (20, [some (.ref 0), some (.int x1), some (.int x2), some (.ref 66), none], [.int (2 : Int32)])) rfl) ?_
          cases h
          exact Or.inr ⟨_, ev_ret rfl rfl rfl rfl, H5, rfl, eH5_12, ((fH5 66 rfl).trans u_66), (xfr_t xfr_refl rfl fH5)⟩
        · have h := (if_neg s5).symm.trans h
          by_cases s3 : e2 = 3
          · have h := (if_pos s3).symm.trans h
            subst s3
            refine go_step (F1 := (23, [some (.ref 0), some (.int x1), some (.int x2), some (.ref 66), none], [])) (M1 := (H5, (false, z.2.1 + 1, z.2.2 + 6))) (fun _ => ev_callVC (x := (.invokevirtual 86, 3, 124, 10, 968, .null)) (as := [.int x1, .int x2]) (rest := [.int (0 : Int32), .ref 66]) rfl rfl u_0 rfl rfl hCH5 rfl) ?_
            refine go_step (fun _ => ev_run 1 (F' := (24, [some (.ref 0), some (.int x1), some (.int x2), some (.ref 66), none], [.int (3 : Int32)])) rfl) ?_
            cases h
            exact Or.inr ⟨_, ev_ret rfl rfl rfl rfl, H5, rfl, eH5_12, ((fH5 66 rfl).trans u_66), (xfr_t xfr_refl rfl fH5)⟩
          · have h := (if_neg s3).symm.trans h
            cases h
    · skip
      obtain ⟨H6, hCH6, eH6_12, fH6⟩ := C_X11_factor (S := S) (d := d) (z := z) (x1 := x1) (x2 := x2) u_10 u_11 u_12 u_0 hy4
      refine go_step (F1 := (8, [some (.ref 0), some (.int x1), some (.int x2), some (.ref 66), none], [.int v3, .int (0 : Int32), .ref 66])) (M1 := (H6, z)) (fun _ => ev_callV (x := (.invokevirtual 86, 3, 124, 10, 968, .null)) (as := [.int x1, .int x2]) (rest := [.int (0 : Int32), .ref 66]) rfl rfl u_0 hCH6 rfl) ?_
      refine go_step (fun _ => ev_run 1 (F' := (9, [some (.ref 0), some (.int x1), some (.int x2), some (.ref 66), none], [.long (v3.toInt64), .int (0 : Int32), .ref 66])) rfl) ?_
      refine go_last rfl ((fH6 66 rfl).trans u_66) rfl (fun H7 (eH7 : H7[66]? = some (.inl (1, 1, .inr (.inl (vp_updL a66 (0 : Int32).toNatClampNeg (v3.toInt64)))))) fH7 => ?_)
      refine go_step (fun _ => ev_run 2 (F' := (26, [some (.ref 0), some (.int x1), some (.int x2), some (.ref 66), none], [.int (0 : Int32)])) rfl) ?_
      cases h
      exact Or.inr ⟨_, ev_ret rfl rfl rfl rfl, H7, rfl, ((fH7 12 rfl).trans eH6_12), eH7, (xfr_t (xfr_t xfr_refl rfl fH6) rfl fH7)⟩
  obtain ⟨_, hE, H', rfl, hrest⟩ := go_end G
  exact ⟨H', hE, hrest⟩
def q_L_order (x1 : Int32) (a10 : Nat → Int64) (a11 : Nat → Int64) (c12_0 : Int64) (c12_1 : Int64) (a66 : Nat → Int64) : Option (Int32 × Bool × Int64 × Int64 × (Nat → Int64)) := (xbnd (q_X11_order x1 a10 a11 c12_0 c12_1) (fun e2 y1 => (if e2 = 2 then (some ((1 : Int32), true, y1.1, y1.2, a66)) else if e2 = 5 then (some ((2 : Int32), true, y1.1, y1.2, a66)) else if e2 = 3 then (some ((3 : Int32), true, y1.1, y1.2, a66)) else none)) (fun v3 y4 => (some ((0 : Int32), false, y4.1, y4.2, (vp_updL a66 (0 : Int32).toNatClampNeg (v3.toInt64))))))
theorem C_L_order {S : Nat × (Nat → Int32)} {d : Nat} {H : List xE} {z : Bool × Nat × Nat} {a10 : Nat → Int64} {a11 : Nat → Int64} {c12_0 : Int64} {c12_1 : Int64} {a66 : Nat → Int64} {x1 : Int32} (u_10 : H[10]? = some (.inl (1, 8, .inr (.inl a10)))) (u_11 : H[11]? = some (.inl (1, 8, .inr (.inl a11)))) (u_12 : H[12]? = some (.inr (3, [.long c12_0, .long c12_1]))) (u_0 : H[0]? = some (oO)) (u_66 : H[66]? = some (.inl (1, 1, .inr (.inl a66)))) {x : (Int32 × Bool × Int64 × Int64 × (Nat → Int64))} (h : q_L_order x1 a10 a11 c12_0 c12_1 a66 = some x) : ∃ H' : List xE, Cm S (d + 4) 286 [.ref 0, .int x1, .ref 66] (H, z) (.inr (some (.int x.1)), (H', zX x.2.1 z)) ∧ H'[12]? = some (.inr (3, [.long x.2.2.1, .long x.2.2.2.1])) ∧ H'[66]? = some (.inl (1, 1, .inr (.inl x.2.2.2.2))) ∧ xfr [12, 66] H H' := by
  have G : Go S (d + 4) 286 (0, [some (.ref 0), some (.int x1), some (.ref 66), none], []) (H, z) (fun _ _ => False) (fun r => ∃ H' : List xE, r = (.inr (some (.int x.1)), (H', zX x.2.1 z)) ∧ H'[12]? = some (.inr (3, [.long x.2.2.1, .long x.2.2.2.1])) ∧ H'[66]? = some (.inl (1, 1, .inr (.inl x.2.2.2.2))) ∧ xfr [12, 66] H H') := by
    unfold q_L_order at h
    refine go_step (fun _ => ev_run 4 (F' := (4, [some (.ref 0), some (.int x1), some (.ref 66), none], [.int x1, .ref 0, .int (0 : Int32), .ref 66])) rfl) ?_
    rcases okx h with ⟨e2, y1, hy1, h⟩ | ⟨v3, y4, hy4, h⟩
    · skip
      obtain ⟨H5, hCH5, eH5_12, fH5⟩ := C_X11_order (S := S) (d := d) (z := z) (x1 := x1) u_10 u_11 u_12 u_0 hy1
      by_cases s2 : e2 = 2
      · have h := (if_pos s2).symm.trans h
        subst s2
        refine go_step (F1 := (13, [some (.ref 0), some (.int x1), some (.ref 66), none], [])) (M1 := (H5, (false, z.2.1 + 1, z.2.2 + 6))) (fun _ => ev_callVC (x := (.invokevirtual 91, 3, 125, 10, 1006, .null)) (as := [.int x1]) (rest := [.int (0 : Int32), .ref 66]) rfl rfl u_0 rfl rfl hCH5 rfl) ?_
        refine go_step (fun _ => ev_run 1 (F' := (14, [some (.ref 0), some (.int x1), some (.ref 66), none], [.int (1 : Int32)])) rfl) ?_
        cases h
        exact Or.inr ⟨_, ev_ret rfl rfl rfl rfl, H5, rfl, eH5_12, ((fH5 66 rfl).trans u_66), (xfr_t xfr_refl rfl fH5)⟩
      · have h := (if_neg s2).symm.trans h
        by_cases s5 : e2 = 5
        · have h := (if_pos s5).symm.trans h
          subst s5
          refine go_step (F1 := (16, [some (.ref 0), some (.int x1), some (.ref 66), none], [])) (M1 := (H5, (false, z.2.1 + 1, z.2.2 + 6))) (fun _ => ev_callVC (x := (.invokevirtual 91, 3, 125, 10, 1006, .null)) (as := [.int x1]) (rest := [.int (0 : Int32), .ref 66]) rfl rfl u_0 rfl rfl hCH5 rfl) ?_
          refine go_step (fun _ => ev_run 1 (F' := (17, [some (.ref 0), some (.int x1), some (.ref 66), none], [.int (2 : Int32)])) rfl) ?_
          cases h
          exact Or.inr ⟨_, ev_ret rfl rfl rfl rfl, H5, rfl, eH5_12, ((fH5 66 rfl).trans u_66), (xfr_t xfr_refl rfl fH5)⟩
        · have h := (if_neg s5).symm.trans h
          by_cases s3 : e2 = 3
          · have h := (if_pos s3).symm.trans h
            subst s3
            refine go_step (F1 := (19, [some (.ref 0), some (.int x1), some (.ref 66), none], [])) (M1 := (H5, (false, z.2.1 + 1, z.2.2 + 6))) (fun _ => ev_callVC (x := (.invokevirtual 91, 3, 125, 10, 1006, .null)) (as := [.int x1]) (rest := [.int (0 : Int32), .ref 66]) rfl rfl u_0 rfl rfl hCH5 rfl) ?_
            refine go_step (fun _ => ev_run 1 (F' := (20, [some (.ref 0), some (.int x1), some (.ref 66), none], [.int (3 : Int32)])) rfl) ?_
            cases h
            exact Or.inr ⟨_, ev_ret rfl rfl rfl rfl, H5, rfl, eH5_12, ((fH5 66 rfl).trans u_66), (xfr_t xfr_refl rfl fH5)⟩
          · have h := (if_neg s3).symm.trans h
            cases h
    · skip
      obtain ⟨H6, hCH6, eH6_12, fH6⟩ := C_X11_order (S := S) (d := d) (z := z) (x1 := x1) u_10 u_11 u_12 u_0 hy4
      refine go_step (F1 := (7, [some (.ref 0), some (.int x1), some (.ref 66), none], [.int v3, .int (0 : Int32), .ref 66])) (M1 := (H6, z)) (fun _ => ev_callV (x := (.invokevirtual 91, 3, 125, 10, 1006, .null)) (as := [.int x1]) (rest := [.int (0 : Int32), .ref 66]) rfl rfl u_0 hCH6 rfl) ?_
      refine go_step (fun _ => ev_run 1 (F' := (8, [some (.ref 0), some (.int x1), some (.ref 66), none], [.long (v3.toInt64), .int (0 : Int32), .ref 66])) rfl) ?_
      refine go_last rfl ((fH6 66 rfl).trans u_66) rfl (fun H7 (eH7 : H7[66]? = some (.inl (1, 1, .inr (.inl (vp_updL a66 (0 : Int32).toNatClampNeg (v3.toInt64)))))) fH7 => ?_)
      refine go_step (fun _ => ev_run 2 (F' := (22, [some (.ref 0), some (.int x1), some (.ref 66), none], [.int (0 : Int32)])) rfl) ?_
      cases h
      exact Or.inr ⟨_, ev_ret rfl rfl rfl rfl, H7, rfl, ((fH7 12 rfl).trans eH6_12), eH7, (xfr_t (xfr_t xfr_refl rfl fH6) rfl fH7)⟩
  obtain ⟨_, hE, H', rfl, hrest⟩ := go_end G
  exact ⟨H', hE, hrest⟩
def q_L_isSeen (x1 : Int32) (a10 : Nat → Int64) (a11 : Nat → Int64) (c12_0 : Int64) (c12_1 : Int64) (c8_0 : Int32) (c8_1 : Int32) (c13_0 : Int64) (c13_1 : Int64) (c14_0 : Int64) (c14_1 : Int64) (a66 : Nat → Int64) : Option (Int32 × Bool × Int64 × Int64 × Int64 × Int64 × Int64 × Int64 × (Nat → Int64)) := (xbnd (q_X11_isSeen x1 a10 a11 c12_0 c12_1 c8_0 c8_1 c13_0 c13_1 c14_0 c14_1) (fun e2 y1 => (if e2 = 2 then (some ((1 : Int32), true, y1.1, y1.2.1, y1.2.2.1, y1.2.2.2.1, y1.2.2.2.2.1, y1.2.2.2.2.2, a66)) else if e2 = 4 then (some ((2 : Int32), true, y1.1, y1.2.1, y1.2.2.1, y1.2.2.2.1, y1.2.2.2.2.1, y1.2.2.2.2.2, a66)) else none)) (fun v3 y4 => (some ((0 : Int32), false, y4.1, y4.2.1, y4.2.2.1, y4.2.2.2.1, y4.2.2.2.2.1, y4.2.2.2.2.2, (vp_updL a66 (0 : Int32).toNatClampNeg (if v3 = (0 : Int32) then (0 : Int64) else (1 : Int64)))))))
theorem C_L_isSeen {S : Nat × (Nat → Int32)} {d : Nat} {H : List xE} {z : Bool × Nat × Nat} {a10 : Nat → Int64} {a11 : Nat → Int64} {c12_0 : Int64} {c12_1 : Int64} {c8_0 : Int32} {c8_1 : Int32} {c8_2 : Int32} {c8_3 : Int32} {c8_4 : Int32} {c8_5 : Int32} {c13_0 : Int64} {c13_1 : Int64} {c14_0 : Int64} {c14_1 : Int64} {a66 : Nat → Int64} {x1 : Int32} (u_10 : H[10]? = some (.inl (1, 8, .inr (.inl a10)))) (u_11 : H[11]? = some (.inl (1, 8, .inr (.inl a11)))) (u_12 : H[12]? = some (.inr (3, [.long c12_0, .long c12_1]))) (u_8 : H[8]? = some (.inr (1, [.int c8_0, .int c8_1, .int c8_2, .int c8_3, .int c8_4, .int c8_5]))) (u_13 : H[13]? = some (.inr (3, [.long c13_0, .long c13_1]))) (u_14 : H[14]? = some (.inr (3, [.long c14_0, .long c14_1]))) (u_0 : H[0]? = some (oO)) (u_66 : H[66]? = some (.inl (1, 1, .inr (.inl a66)))) {x : (Int32 × Bool × Int64 × Int64 × Int64 × Int64 × Int64 × Int64 × (Nat → Int64))} (h : q_L_isSeen x1 a10 a11 c12_0 c12_1 c8_0 c8_1 c13_0 c13_1 c14_0 c14_1 a66 = some x) : ∃ H' : List xE, Cm S (d + 4) 287 [.ref 0, .int x1, .ref 66] (H, z) (.inr (some (.int x.1)), (H', zX x.2.1 z)) ∧ H'[12]? = some (.inr (3, [.long x.2.2.1, .long x.2.2.2.1])) ∧ H'[13]? = some (.inr (3, [.long x.2.2.2.2.1, .long x.2.2.2.2.2.1])) ∧ H'[14]? = some (.inr (3, [.long x.2.2.2.2.2.2.1, .long x.2.2.2.2.2.2.2.1])) ∧ H'[66]? = some (.inl (1, 1, .inr (.inl x.2.2.2.2.2.2.2.2))) ∧ xfr [12, 13, 14, 66] H H' := by
  have G : Go S (d + 4) 287 (0, [some (.ref 0), some (.int x1), some (.ref 66), none], []) (H, z) (fun _ _ => False) (fun r => ∃ H' : List xE, r = (.inr (some (.int x.1)), (H', zX x.2.1 z)) ∧ H'[12]? = some (.inr (3, [.long x.2.2.1, .long x.2.2.2.1])) ∧ H'[13]? = some (.inr (3, [.long x.2.2.2.2.1, .long x.2.2.2.2.2.1])) ∧ H'[14]? = some (.inr (3, [.long x.2.2.2.2.2.2.1, .long x.2.2.2.2.2.2.2.1])) ∧ H'[66]? = some (.inl (1, 1, .inr (.inl x.2.2.2.2.2.2.2.2))) ∧ xfr [12, 13, 14, 66] H H') := by
    unfold q_L_isSeen at h
    refine go_step (fun _ => ev_run 4 (F' := (4, [some (.ref 0), some (.int x1), some (.ref 66), none], [.int x1, .ref 0, .int (0 : Int32), .ref 66])) rfl) ?_
    rcases okx h with ⟨e2, y1, hy1, h⟩ | ⟨v3, y4, hy4, h⟩
    · skip
      obtain ⟨H5, hCH5, eH5_12, eH5_13, eH5_14, fH5⟩ := C_X11_isSeen (S := S) (d := d) (z := z) (x1 := x1) u_0 u_10 u_11 u_12 u_8 u_13 u_14 hy1
      by_cases s2 : e2 = 2
      · have h := (if_pos s2).symm.trans h
        subst s2
        refine go_step (F1 := (20, [some (.ref 0), some (.int x1), some (.ref 66), none], [])) (M1 := (H5, (false, z.2.1 + 1, z.2.2 + 6))) (fun _ => ev_callVC (x := (.invokevirtual 94, 3, 126, 10, 1017, .null)) (as := [.int x1]) (rest := [.int (0 : Int32), .ref 66]) rfl rfl u_0 rfl rfl hCH5 rfl) ?_
        refine go_step (fun _ => ev_run 1 (F' := (21, [some (.ref 0), some (.int x1), some (.ref 66), none], [.int (1 : Int32)])) rfl) ?_
        cases h
        exact Or.inr ⟨_, ev_ret rfl rfl rfl rfl, H5, rfl, eH5_12, eH5_13, eH5_14, ((fH5 66 rfl).trans u_66), (xfr_t xfr_refl rfl fH5)⟩
      · have h := (if_neg s2).symm.trans h
        by_cases s4 : e2 = 4
        · have h := (if_pos s4).symm.trans h
          subst s4
          refine go_step (F1 := (23, [some (.ref 0), some (.int x1), some (.ref 66), none], [])) (M1 := (H5, (false, z.2.1 + 1, z.2.2 + 6))) (fun _ => ev_callVC (x := (.invokevirtual 94, 3, 126, 10, 1017, .null)) (as := [.int x1]) (rest := [.int (0 : Int32), .ref 66]) rfl rfl u_0 rfl rfl hCH5 rfl) ?_
          refine go_step (fun _ => ev_run 1 (F' := (24, [some (.ref 0), some (.int x1), some (.ref 66), none], [.int (2 : Int32)])) rfl) ?_
          cases h
          exact Or.inr ⟨_, ev_ret rfl rfl rfl rfl, H5, rfl, eH5_12, eH5_13, eH5_14, ((fH5 66 rfl).trans u_66), (xfr_t xfr_refl rfl fH5)⟩
        · have h := (if_neg s4).symm.trans h
          cases h
    · skip
      obtain ⟨H6, hCH6, eH6_12, eH6_13, eH6_14, fH6⟩ := C_X11_isSeen (S := S) (d := d) (z := z) (x1 := x1) u_0 u_10 u_11 u_12 u_8 u_13 u_14 hy4
      refine go_step (F1 := (7, [some (.ref 0), some (.int x1), some (.ref 66), none], [.int v3, .int (0 : Int32), .ref 66])) (M1 := (H6, z)) (fun _ => ev_callV (x := (.invokevirtual 94, 3, 126, 10, 1017, .null)) (as := [.int x1]) (rest := [.int (0 : Int32), .ref 66]) rfl rfl u_0 hCH6 rfl) ?_
      refine go_step (F1 := (15, [none, none, none, none], [.long (if v3 = (0 : Int32) then (0 : Int64) else (1 : Int64)), .int (0 : Int32), .ref 66])) (M1 := (H6, z)) (fun r K => ?_) ?_
      · skip
        refine ev_if rfl (fun (b7 : v3 = (0 : Int32)) => ?_) (fun (b7 : ¬ (v3 = (0 : Int32))) => ?_)
        · skip
          refine ev_run 1 (F' := (15, [some (.ref 0), some (.int x1), some (.ref 66), none], [.long (0 : Int64), .int (0 : Int32), .ref 66])) rfl ?_
          refine ev_forget (L' := [none, none, none, none]) (show xleP _ [some (.ref 0), some (.int x1), some (.ref 66), none] from trivial) rfl ?_
          exact ev_cast (show ((15, [none, none, none, none], [.long (0 : Int64), .int (0 : Int32), .ref 66]) : xF) = (15, [none, none, none, none], [.long (if v3 = (0 : Int32) then (0 : Int64) else (1 : Int64)), .int (0 : Int32), .ref 66]) by first | (simp only [if_pos b7]; done) | rfl) rfl K
        · skip
          refine ev_run 2 (F' := (15, [some (.ref 0), some (.int x1), some (.ref 66), none], [.long (1 : Int64), .int (0 : Int32), .ref 66])) rfl ?_
          refine ev_forget (L' := [none, none, none, none]) (show xleP _ [some (.ref 0), some (.int x1), some (.ref 66), none] from trivial) rfl ?_
          exact ev_cast (show ((15, [none, none, none, none], [.long (1 : Int64), .int (0 : Int32), .ref 66]) : xF) = (15, [none, none, none, none], [.long (if v3 = (0 : Int32) then (0 : Int64) else (1 : Int64)), .int (0 : Int32), .ref 66]) by first | (simp only [if_neg b7]; done) | rfl) rfl K
      refine go_last rfl ((fH6 66 rfl).trans u_66) rfl (fun H7 (eH7 : H7[66]? = some (.inl (1, 1, .inr (.inl (vp_updL a66 (0 : Int32).toNatClampNeg (if v3 = (0 : Int32) then (0 : Int64) else (1 : Int64))))))) fH7 => ?_)
      refine go_step (fun _ => ev_run 2 (F' := (26, [none, none, none, none], [.int (0 : Int32)])) rfl) ?_
      cases h
      exact Or.inr ⟨_, ev_ret rfl rfl rfl rfl, H7, rfl, ((fH7 12 rfl).trans eH6_12), ((fH7 13 rfl).trans eH6_13), ((fH7 14 rfl).trans eH6_14), eH7, (xfr_t (xfr_t xfr_refl rfl fH6) rfl fH7)⟩
  obtain ⟨_, hE, H', rfl, hrest⟩ := go_end G
  exact ⟨H', hE, hrest⟩
def q_L_shortest (x1 : Int32) (a16 : Nat → Int32) (c8_0 : Int32) (c8_1 : Int32) (c14_0 : Int64) (c14_1 : Int64) (a66 : Nat → Int64) : Option (Int32 × Bool × (Nat → Int32) × Int64 × Int64 × (Nat → Int64)) := (xbnd (q_X11_shortest x1 a16 c8_0 c8_1 c14_0 c14_1) (fun e2 y1 => (if e2 = 0 then (some ((1 : Int32), true, y1.1, y1.2.1, y1.2.2, a66)) else none)) (fun v3 y4 => (some ((0 : Int32), false, y4.1, y4.2.1, y4.2.2, (vp_updL a66 (0 : Int32).toNatClampNeg (v3.toInt64))))))
theorem C_L_shortest {S : Nat × (Nat → Int32)} {d : Nat} {H : List xE} {z : Bool × Nat × Nat} {a16 : Nat → Int32} {c8_0 : Int32} {c8_1 : Int32} {c8_2 : Int32} {c8_3 : Int32} {c8_4 : Int32} {c8_5 : Int32} {c14_0 : Int64} {c14_1 : Int64} {a66 : Nat → Int64} {x1 : Int32} (u_16 : H[16]? = some (.inl (0, 48, .inl a16))) (u_8 : H[8]? = some (.inr (1, [.int c8_0, .int c8_1, .int c8_2, .int c8_3, .int c8_4, .int c8_5]))) (u_14 : H[14]? = some (.inr (3, [.long c14_0, .long c14_1]))) (u_0 : H[0]? = some (oO)) (u_15 : H[15]? = some (.inr (6, [.ref 16]))) (u_66 : H[66]? = some (.inl (1, 1, .inr (.inl a66)))) {x : (Int32 × Bool × (Nat → Int32) × Int64 × Int64 × (Nat → Int64))} (h : q_L_shortest x1 a16 c8_0 c8_1 c14_0 c14_1 a66 = some x) : ∃ H' : List xE, Cm S (d + 6) 288 [.ref 0, .int x1, .ref 66] (H, z) (.inr (some (.int x.1)), (H', zX x.2.1 z)) ∧ H'[16]? = some (.inl (0, 48, .inl x.2.2.1)) ∧ H'[14]? = some (.inr (3, [.long x.2.2.2.1, .long x.2.2.2.2.1])) ∧ H'[66]? = some (.inl (1, 1, .inr (.inl x.2.2.2.2.2))) ∧ xfr [16, 14, 66] H H' := by
  have G : Go S (d + 6) 288 (0, [some (.ref 0), some (.int x1), some (.ref 66), none], []) (H, z) (fun _ _ => False) (fun r => ∃ H' : List xE, r = (.inr (some (.int x.1)), (H', zX x.2.1 z)) ∧ H'[16]? = some (.inl (0, 48, .inl x.2.2.1)) ∧ H'[14]? = some (.inr (3, [.long x.2.2.2.1, .long x.2.2.2.2.1])) ∧ H'[66]? = some (.inl (1, 1, .inr (.inl x.2.2.2.2.2))) ∧ xfr [16, 14, 66] H H') := by
    unfold q_L_shortest at h
    refine go_step (fun _ => ev_run 4 (F' := (4, [some (.ref 0), some (.int x1), some (.ref 66), none], [.int x1, .ref 0, .int (0 : Int32), .ref 66])) rfl) ?_
    rcases okx h with ⟨e2, y1, hy1, h⟩ | ⟨v3, y4, hy4, h⟩
    · skip
      obtain ⟨H5, hCH5, eH5_16, eH5_14, fH5⟩ := C_X11_shortest (S := S) (d := d) (z := z) (x1 := x1) u_16 u_8 u_0 u_15 u_14 hy1
      by_cases s0 : e2 = 0
      · have h := (if_pos s0).symm.trans h
        subst s0
        refine go_step (F1 := (13, [some (.ref 0), some (.int x1), some (.ref 66), none], [])) (M1 := (H5, (false, z.2.1 + 1, z.2.2 + 6))) (fun _ => ev_callVC (x := (.invokevirtual 98, 3, 127, 10, 1025, .null)) (as := [.int x1]) (rest := [.int (0 : Int32), .ref 66]) rfl rfl u_0 rfl rfl hCH5 rfl) ?_
        refine go_step (fun _ => ev_run 1 (F' := (14, [some (.ref 0), some (.int x1), some (.ref 66), none], [.int (1 : Int32)])) rfl) ?_
        cases h
        exact Or.inr ⟨_, ev_ret rfl rfl rfl rfl, H5, rfl, eH5_16, eH5_14, ((fH5 66 rfl).trans u_66), (xfr_t xfr_refl rfl fH5)⟩
      · have h := (if_neg s0).symm.trans h
        cases h
    · skip
      obtain ⟨H6, hCH6, eH6_16, eH6_14, fH6⟩ := C_X11_shortest (S := S) (d := d) (z := z) (x1 := x1) u_16 u_8 u_0 u_15 u_14 hy4
      refine go_step (F1 := (7, [some (.ref 0), some (.int x1), some (.ref 66), none], [.int v3, .int (0 : Int32), .ref 66])) (M1 := (H6, z)) (fun _ => ev_callV (x := (.invokevirtual 98, 3, 127, 10, 1025, .null)) (as := [.int x1]) (rest := [.int (0 : Int32), .ref 66]) rfl rfl u_0 hCH6 rfl) ?_
      refine go_step (fun _ => ev_run 1 (F' := (8, [some (.ref 0), some (.int x1), some (.ref 66), none], [.long (v3.toInt64), .int (0 : Int32), .ref 66])) rfl) ?_
      refine go_last rfl ((fH6 66 rfl).trans u_66) rfl (fun H7 (eH7 : H7[66]? = some (.inl (1, 1, .inr (.inl (vp_updL a66 (0 : Int32).toNatClampNeg (v3.toInt64)))))) fH7 => ?_)
      refine go_step (fun _ => ev_run 2 (F' := (16, [some (.ref 0), some (.int x1), some (.ref 66), none], [.int (0 : Int32)])) rfl) ?_
      cases h
      exact Or.inr ⟨_, ev_ret rfl rfl rfl rfl, H7, rfl, ((fH7 16 rfl).trans eH6_16), ((fH7 14 rfl).trans eH6_14), eH7, (xfr_t (xfr_t xfr_refl rfl fH6) rfl fH7)⟩
  obtain ⟨_, hE, H', rfl, hrest⟩ := go_end G
  exact ⟨H', hE, hrest⟩
def q_L_unseenSlip (x1 : Int32) (a16 : Nat → Int32) (c8_0 : Int32) (c8_1 : Int32) (a66 : Nat → Int64) : Option (Int32 × Bool × (Nat → Int32) × (Nat → Int64)) := (xbnd (q_X11_unseenSlip x1 a16 c8_0 c8_1) (fun e2 y1 => (if e2 = 0 then (some ((1 : Int32), true, y1, a66)) else if e2 = 3 then (some ((2 : Int32), true, y1, a66)) else none)) (fun v3 y4 => (some ((0 : Int32), false, y4, (vp_updL a66 (0 : Int32).toNatClampNeg v3)))))
theorem C_L_unseenSlip {S : Nat × (Nat → Int32)} {d : Nat} {H : List xE} {z : Bool × Nat × Nat} {a16 : Nat → Int32} {c8_0 : Int32} {c8_1 : Int32} {c8_2 : Int32} {c8_3 : Int32} {c8_4 : Int32} {c8_5 : Int32} {a66 : Nat → Int64} {x1 : Int32} (u_16 : H[16]? = some (.inl (0, 48, .inl a16))) (u_8 : H[8]? = some (.inr (1, [.int c8_0, .int c8_1, .int c8_2, .int c8_3, .int c8_4, .int c8_5]))) (u_0 : H[0]? = some (oO)) (u_15 : H[15]? = some (.inr (6, [.ref 16]))) (u_66 : H[66]? = some (.inl (1, 1, .inr (.inl a66)))) {x : (Int32 × Bool × (Nat → Int32) × (Nat → Int64))} (h : q_L_unseenSlip x1 a16 c8_0 c8_1 a66 = some x) : ∃ H' : List xE, Cm S (d + 6) 289 [.ref 0, .int x1, .ref 66] (H, z) (.inr (some (.int x.1)), (H', zX x.2.1 z)) ∧ H'[16]? = some (.inl (0, 48, .inl x.2.2.1)) ∧ H'[66]? = some (.inl (1, 1, .inr (.inl x.2.2.2))) ∧ xfr [16, 66] H H' := by
  have G : Go S (d + 6) 289 (0, [some (.ref 0), some (.int x1), some (.ref 66), none], []) (H, z) (fun _ _ => False) (fun r => ∃ H' : List xE, r = (.inr (some (.int x.1)), (H', zX x.2.1 z)) ∧ H'[16]? = some (.inl (0, 48, .inl x.2.2.1)) ∧ H'[66]? = some (.inl (1, 1, .inr (.inl x.2.2.2))) ∧ xfr [16, 66] H H') := by
    unfold q_L_unseenSlip at h
    refine go_step (fun _ => ev_run 4 (F' := (4, [some (.ref 0), some (.int x1), some (.ref 66), none], [.int x1, .ref 0, .int (0 : Int32), .ref 66])) rfl) ?_
    rcases okx h with ⟨e2, y1, hy1, h⟩ | ⟨v3, y4, hy4, h⟩
    · skip
      obtain ⟨H5, hCH5, eH5_16, fH5⟩ := C_X11_unseenSlip (S := S) (d := d) (z := z) (x1 := x1) u_16 u_8 u_0 u_15 hy1
      by_cases s0 : e2 = 0
      · have h := (if_pos s0).symm.trans h
        subst s0
        refine go_step (F1 := (12, [some (.ref 0), some (.int x1), some (.ref 66), none], [])) (M1 := (H5, (false, z.2.1 + 1, z.2.2 + 6))) (fun _ => ev_callVC (x := (.invokevirtual 101, 3, 128, 10, 1059, .null)) (as := [.int x1]) (rest := [.int (0 : Int32), .ref 66]) rfl rfl u_0 rfl rfl hCH5 rfl) ?_
        refine go_step (fun _ => ev_run 1 (F' := (13, [some (.ref 0), some (.int x1), some (.ref 66), none], [.int (1 : Int32)])) rfl) ?_
        cases h
        exact Or.inr ⟨_, ev_ret rfl rfl rfl rfl, H5, rfl, eH5_16, ((fH5 66 rfl).trans u_66), (xfr_t xfr_refl rfl fH5)⟩
      · have h := (if_neg s0).symm.trans h
        by_cases s3 : e2 = 3
        · have h := (if_pos s3).symm.trans h
          subst s3
          refine go_step (F1 := (15, [some (.ref 0), some (.int x1), some (.ref 66), none], [])) (M1 := (H5, (false, z.2.1 + 1, z.2.2 + 6))) (fun _ => ev_callVC (x := (.invokevirtual 101, 3, 128, 10, 1059, .null)) (as := [.int x1]) (rest := [.int (0 : Int32), .ref 66]) rfl rfl u_0 rfl rfl hCH5 rfl) ?_
          refine go_step (fun _ => ev_run 1 (F' := (16, [some (.ref 0), some (.int x1), some (.ref 66), none], [.int (2 : Int32)])) rfl) ?_
          cases h
          exact Or.inr ⟨_, ev_ret rfl rfl rfl rfl, H5, rfl, eH5_16, ((fH5 66 rfl).trans u_66), (xfr_t xfr_refl rfl fH5)⟩
        · have h := (if_neg s3).symm.trans h
          cases h
    · skip
      obtain ⟨H6, hCH6, eH6_16, fH6⟩ := C_X11_unseenSlip (S := S) (d := d) (z := z) (x1 := x1) u_16 u_8 u_0 u_15 hy4
      refine go_step (F1 := (7, [some (.ref 0), some (.int x1), some (.ref 66), none], [.long v3, .int (0 : Int32), .ref 66])) (M1 := (H6, z)) (fun _ => ev_callV (x := (.invokevirtual 101, 3, 128, 10, 1059, .null)) (as := [.int x1]) (rest := [.int (0 : Int32), .ref 66]) rfl rfl u_0 hCH6 rfl) ?_
      refine go_last rfl ((fH6 66 rfl).trans u_66) rfl (fun H7 (eH7 : H7[66]? = some (.inl (1, 1, .inr (.inl (vp_updL a66 (0 : Int32).toNatClampNeg v3))))) fH7 => ?_)
      refine go_step (fun _ => ev_run 2 (F' := (18, [some (.ref 0), some (.int x1), some (.ref 66), none], [.int (0 : Int32)])) rfl) ?_
      cases h
      exact Or.inr ⟨_, ev_ret rfl rfl rfl rfl, H7, rfl, ((fH7 16 rfl).trans eH6_16), eH7, (xfr_t (xfr_t xfr_refl rfl fH6) rfl fH7)⟩
  obtain ⟨_, hE, H', rfl, hrest⟩ := go_end G
  exact ⟨H', hE, hrest⟩
def q_L_best (x1 : Int32) (x2 : Int32) (c9_0 : Int32) (c9_1 : Int32) (c9_2 : Int32) (c9_3 : Int32) (c9_4 : Int32) (c9_5 : Int32) (a16 : Nat → Int32) (a66 : Nat → Int64) : Option (Int32 × Bool × Int32 × Int32 × Int32 × Int32 × Int32 × Int32 × (Nat → Int32) × (Nat → Int64)) := (xbnd (q_X11_best x1 x2 c9_0 c9_1 c9_2 c9_3 c9_4 c9_5 a16) (fun e2 y1 => (if e2 = 0 then (some ((1 : Int32), true, y1.1, y1.2.1, y1.2.2.1, y1.2.2.2.1, y1.2.2.2.2.1, y1.2.2.2.2.2.1, y1.2.2.2.2.2.2, a66)) else none)) (fun v3 y4 => (some ((0 : Int32), false, y4.1, y4.2.1, y4.2.2.1, y4.2.2.2.1, y4.2.2.2.2.1, y4.2.2.2.2.2.1, y4.2.2.2.2.2.2, (vp_updL a66 (0 : Int32).toNatClampNeg (v3.toInt64))))))
theorem C_L_best {S : Nat × (Nat → Int32)} {d : Nat} {H : List xE} {z : Bool × Nat × Nat} {c9_0 : Int32} {c9_1 : Int32} {c9_2 : Int32} {c9_3 : Int32} {c9_4 : Int32} {c9_5 : Int32} {a16 : Nat → Int32} {a66 : Nat → Int64} {x1 : Int32} {x2 : Int32} (u_9 : H[9]? = some (.inr (1, [.int c9_0, .int c9_1, .int c9_2, .int c9_3, .int c9_4, .int c9_5]))) (u_16 : H[16]? = some (.inl (0, 48, .inl a16))) (u_0 : H[0]? = some (oO)) (u_15 : H[15]? = some (.inr (6, [.ref 16]))) (u_66 : H[66]? = some (.inl (1, 1, .inr (.inl a66)))) {x : (Int32 × Bool × Int32 × Int32 × Int32 × Int32 × Int32 × Int32 × (Nat → Int32) × (Nat → Int64))} (h : q_L_best x1 x2 c9_0 c9_1 c9_2 c9_3 c9_4 c9_5 a16 a66 = some x) : ∃ H' : List xE, Cm S (d + 5) 290 [.ref 0, .int x1, .int x2, .ref 66] (H, z) (.inr (some (.int x.1)), (H', zX x.2.1 z)) ∧ H'[9]? = some (.inr (1, [.int x.2.2.1, .int x.2.2.2.1, .int x.2.2.2.2.1, .int x.2.2.2.2.2.1, .int x.2.2.2.2.2.2.1, .int x.2.2.2.2.2.2.2.1])) ∧ H'[16]? = some (.inl (0, 48, .inl x.2.2.2.2.2.2.2.2.1)) ∧ H'[66]? = some (.inl (1, 1, .inr (.inl x.2.2.2.2.2.2.2.2.2))) ∧ xfr [9, 16, 66] H H' := by
  have G : Go S (d + 5) 290 (0, [some (.ref 0), some (.int x1), some (.int x2), some (.ref 66), none], []) (H, z) (fun _ _ => False) (fun r => ∃ H' : List xE, r = (.inr (some (.int x.1)), (H', zX x.2.1 z)) ∧ H'[9]? = some (.inr (1, [.int x.2.2.1, .int x.2.2.2.1, .int x.2.2.2.2.1, .int x.2.2.2.2.2.1, .int x.2.2.2.2.2.2.1, .int x.2.2.2.2.2.2.2.1])) ∧ H'[16]? = some (.inl (0, 48, .inl x.2.2.2.2.2.2.2.2.1)) ∧ H'[66]? = some (.inl (1, 1, .inr (.inl x.2.2.2.2.2.2.2.2.2))) ∧ xfr [9, 16, 66] H H') := by
    unfold q_L_best at h
    refine go_step (fun _ => ev_run 5 (F' := (5, [some (.ref 0), some (.int x1), some (.int x2), some (.ref 66), none], [.int x2, .int x1, .ref 0, .int (0 : Int32), .ref 66])) rfl) ?_
    rcases okx h with ⟨e2, y1, hy1, h⟩ | ⟨v3, y4, hy4, h⟩
    · skip
      obtain ⟨H5, hCH5, eH5_9, eH5_16, fH5⟩ := C_X11_best (S := S) (d := d) (z := z) (x1 := x1) (x2 := x2) u_0 u_9 u_16 u_15 hy1
      by_cases s0 : e2 = 0
      · have h := (if_pos s0).symm.trans h
        subst s0
        refine go_step (F1 := (15, [some (.ref 0), some (.int x1), some (.int x2), some (.ref 66), none], [])) (M1 := (H5, (false, z.2.1 + 1, z.2.2 + 6))) (fun _ => ev_callVC (x := (.invokevirtual 104, 3, 129, 10, 1067, .null)) (as := [.int x1, .int x2]) (rest := [.int (0 : Int32), .ref 66]) rfl rfl u_0 rfl rfl hCH5 rfl) ?_
        refine go_step (fun _ => ev_run 1 (F' := (16, [some (.ref 0), some (.int x1), some (.int x2), some (.ref 66), none], [.int (1 : Int32)])) rfl) ?_
        cases h
        exact Or.inr ⟨_, ev_ret rfl rfl rfl rfl, H5, rfl, eH5_9, eH5_16, ((fH5 66 rfl).trans u_66), (xfr_t xfr_refl rfl fH5)⟩
      · have h := (if_neg s0).symm.trans h
        cases h
    · skip
      obtain ⟨H6, hCH6, eH6_9, eH6_16, fH6⟩ := C_X11_best (S := S) (d := d) (z := z) (x1 := x1) (x2 := x2) u_0 u_9 u_16 u_15 hy4
      refine go_step (F1 := (8, [some (.ref 0), some (.int x1), some (.int x2), some (.ref 66), none], [.int v3, .int (0 : Int32), .ref 66])) (M1 := (H6, z)) (fun _ => ev_callV (x := (.invokevirtual 104, 3, 129, 10, 1067, .null)) (as := [.int x1, .int x2]) (rest := [.int (0 : Int32), .ref 66]) rfl rfl u_0 hCH6 rfl) ?_
      refine go_step (fun _ => ev_run 1 (F' := (9, [some (.ref 0), some (.int x1), some (.int x2), some (.ref 66), none], [.long (v3.toInt64), .int (0 : Int32), .ref 66])) rfl) ?_
      refine go_last rfl ((fH6 66 rfl).trans u_66) rfl (fun H7 (eH7 : H7[66]? = some (.inl (1, 1, .inr (.inl (vp_updL a66 (0 : Int32).toNatClampNeg (v3.toInt64)))))) fH7 => ?_)
      refine go_step (fun _ => ev_run 2 (F' := (18, [some (.ref 0), some (.int x1), some (.int x2), some (.ref 66), none], [.int (0 : Int32)])) rfl) ?_
      cases h
      exact Or.inr ⟨_, ev_ret rfl rfl rfl rfl, H7, rfl, ((fH7 9 rfl).trans eH6_9), ((fH7 16 rfl).trans eH6_16), eH7, (xfr_t (xfr_t xfr_refl rfl fH6) rfl fH7)⟩
  obtain ⟨_, hE, H', rfl, hrest⟩ := go_end G
  exact ⟨H', hE, hrest⟩
def q_L_digit (x1 : Int32) (c17_1 : Int32) (a18 : Nat → Int32) (a66 : Nat → Int64) : Option (Int32 × Bool × Int32 × (Nat → Int32) × (Nat → Int64)) := (xbnd (q_X11_digit x1 c17_1 a18) (fun e2 y1 => (if e2 = 0 then (some ((1 : Int32), true, y1.1, y1.2, a66)) else if e2 = 1 then (some ((2 : Int32), true, y1.1, y1.2, a66)) else none)) (fun v3 y4 => (some ((0 : Int32), false, y4.1, y4.2, (vp_updL a66 (0 : Int32).toNatClampNeg (v3.toInt64))))))
theorem C_L_digit {S : Nat × (Nat → Int32)} {d : Nat} {H : List xE} {z : Bool × Nat × Nat} {c17_1 : Int32} {a18 : Nat → Int32} {a66 : Nat → Int64} {x1 : Int32} (u_17 : H[17]? = some (.inr (4, [.ref 18, .int c17_1]))) (u_18 : H[18]? = some (.inl (0, 18, .inl a18))) (u_0 : H[0]? = some (oO)) (u_66 : H[66]? = some (.inl (1, 1, .inr (.inl a66)))) {x : (Int32 × Bool × Int32 × (Nat → Int32) × (Nat → Int64))} (h : q_L_digit x1 c17_1 a18 a66 = some x) : ∃ H' : List xE, Cm S (d + 4) 291 [.ref 0, .int x1, .ref 66] (H, z) (.inr (some (.int x.1)), (H', zX x.2.1 z)) ∧ H'[17]? = some (.inr (4, [.ref 18, .int x.2.2.1])) ∧ H'[18]? = some (.inl (0, 18, .inl x.2.2.2.1)) ∧ H'[66]? = some (.inl (1, 1, .inr (.inl x.2.2.2.2))) ∧ xfr [17, 18, 66] H H' := by
  have G : Go S (d + 4) 291 (0, [some (.ref 0), some (.int x1), some (.ref 66), none], []) (H, z) (fun _ _ => False) (fun r => ∃ H' : List xE, r = (.inr (some (.int x.1)), (H', zX x.2.1 z)) ∧ H'[17]? = some (.inr (4, [.ref 18, .int x.2.2.1])) ∧ H'[18]? = some (.inl (0, 18, .inl x.2.2.2.1)) ∧ H'[66]? = some (.inl (1, 1, .inr (.inl x.2.2.2.2))) ∧ xfr [17, 18, 66] H H') := by
    unfold q_L_digit at h
    refine go_step (fun _ => ev_run 4 (F' := (4, [some (.ref 0), some (.int x1), some (.ref 66), none], [.int x1, .ref 0, .int (0 : Int32), .ref 66])) rfl) ?_
    rcases okx h with ⟨e2, y1, hy1, h⟩ | ⟨v3, y4, hy4, h⟩
    · skip
      obtain ⟨H5, hCH5, eH5_17, eH5_18, fH5⟩ := C_X11_digit (S := S) (d := d) (z := z) (x1 := x1) u_0 u_17 u_18 hy1
      by_cases s0 : e2 = 0
      · have h := (if_pos s0).symm.trans h
        subst s0
        refine go_step (F1 := (13, [some (.ref 0), some (.int x1), some (.ref 66), none], [])) (M1 := (H5, (false, z.2.1 + 1, z.2.2 + 6))) (fun _ => ev_callVC (x := (.invokevirtual 107, 3, 130, 10, 1080, .null)) (as := [.int x1]) (rest := [.int (0 : Int32), .ref 66]) rfl rfl u_0 rfl rfl hCH5 rfl) ?_
        refine go_step (fun _ => ev_run 1 (F' := (14, [some (.ref 0), some (.int x1), some (.ref 66), none], [.int (1 : Int32)])) rfl) ?_
        cases h
        exact Or.inr ⟨_, ev_ret rfl rfl rfl rfl, H5, rfl, eH5_17, eH5_18, ((fH5 66 rfl).trans u_66), (xfr_t xfr_refl rfl fH5)⟩
      · have h := (if_neg s0).symm.trans h
        by_cases s1 : e2 = 1
        · have h := (if_pos s1).symm.trans h
          subst s1
          refine go_step (F1 := (16, [some (.ref 0), some (.int x1), some (.ref 66), none], [])) (M1 := (H5, (false, z.2.1 + 1, z.2.2 + 6))) (fun _ => ev_callVC (x := (.invokevirtual 107, 3, 130, 10, 1080, .null)) (as := [.int x1]) (rest := [.int (0 : Int32), .ref 66]) rfl rfl u_0 rfl rfl hCH5 rfl) ?_
          refine go_step (fun _ => ev_run 1 (F' := (17, [some (.ref 0), some (.int x1), some (.ref 66), none], [.int (2 : Int32)])) rfl) ?_
          cases h
          exact Or.inr ⟨_, ev_ret rfl rfl rfl rfl, H5, rfl, eH5_17, eH5_18, ((fH5 66 rfl).trans u_66), (xfr_t xfr_refl rfl fH5)⟩
        · have h := (if_neg s1).symm.trans h
          cases h
    · skip
      obtain ⟨H6, hCH6, eH6_17, eH6_18, fH6⟩ := C_X11_digit (S := S) (d := d) (z := z) (x1 := x1) u_0 u_17 u_18 hy4
      refine go_step (F1 := (7, [some (.ref 0), some (.int x1), some (.ref 66), none], [.int v3, .int (0 : Int32), .ref 66])) (M1 := (H6, z)) (fun _ => ev_callV (x := (.invokevirtual 107, 3, 130, 10, 1080, .null)) (as := [.int x1]) (rest := [.int (0 : Int32), .ref 66]) rfl rfl u_0 hCH6 rfl) ?_
      refine go_step (fun _ => ev_run 1 (F' := (8, [some (.ref 0), some (.int x1), some (.ref 66), none], [.long (v3.toInt64), .int (0 : Int32), .ref 66])) rfl) ?_
      refine go_last rfl ((fH6 66 rfl).trans u_66) rfl (fun H7 (eH7 : H7[66]? = some (.inl (1, 1, .inr (.inl (vp_updL a66 (0 : Int32).toNatClampNeg (v3.toInt64)))))) fH7 => ?_)
      refine go_step (fun _ => ev_run 2 (F' := (19, [some (.ref 0), some (.int x1), some (.ref 66), none], [.int (0 : Int32)])) rfl) ?_
      cases h
      exact Or.inr ⟨_, ev_ret rfl rfl rfl rfl, H7, rfl, ((fH7 17 rfl).trans eH6_17), ((fH7 18 rfl).trans eH6_18), eH7, (xfr_t (xfr_t xfr_refl rfl fH6) rfl fH7)⟩
  obtain ⟨_, hE, H', rfl, hrest⟩ := go_end G
  exact ⟨H', hE, hrest⟩
def q_L_check (x1 : Int32) (c17_1 : Int32) (a18 : Nat → Int32) (a22 : Nat → Int32) (a66 : Nat → Int64) : Option (Int32 × Bool × (Nat → Int64)) := (xbnd (q_X11_check x1 c17_1 a18 a22) (fun e2 y1 => (if e2 = 0 then (some ((1 : Int32), true, a66)) else if e2 = 3 then (some ((2 : Int32), true, a66)) else none)) (fun v3 y4 => (some ((0 : Int32), false, (vp_updL a66 (0 : Int32).toNatClampNeg (v3.toInt64))))))
theorem C_L_check {S : Nat × (Nat → Int32)} {d : Nat} {H : List xE} {z : Bool × Nat × Nat} {c17_1 : Int32} {a18 : Nat → Int32} {a22 : Nat → Int32} {a66 : Nat → Int64} {x1 : Int32} (u_17 : H[17]? = some (.inr (4, [.ref 18, .int c17_1]))) (u_18 : H[18]? = some (.inl (0, 18, .inl a18))) (u_22 : H[22]? = some (.inl (0, 190, .inl a22))) (u_0 : H[0]? = some (oO)) (u_1000000 : H[1000000]? = none) (u_19 : H[19]? = some (.inr (5, [.ref 20, .ref 22]))) (u_66 : H[66]? = some (.inl (1, 1, .inr (.inl a66)))) {x : (Int32 × Bool × (Nat → Int64))} (h : q_L_check x1 c17_1 a18 a22 a66 = some x) : ∃ H' : List xE, Cm S (d + 4) 292 [.ref 0, .int x1, .ref 66] (H, z) (.inr (some (.int x.1)), (H', zX x.2.1 z)) ∧ H'[66]? = some (.inl (1, 1, .inr (.inl x.2.2))) ∧ xfr [66] H H' := by
  have G : Go S (d + 4) 292 (0, [some (.ref 0), some (.int x1), some (.ref 66), none], []) (H, z) (fun _ _ => False) (fun r => ∃ H' : List xE, r = (.inr (some (.int x.1)), (H', zX x.2.1 z)) ∧ H'[66]? = some (.inl (1, 1, .inr (.inl x.2.2))) ∧ xfr [66] H H') := by
    unfold q_L_check at h
    refine go_step (fun _ => ev_run 4 (F' := (4, [some (.ref 0), some (.int x1), some (.ref 66), none], [.int x1, .ref 0, .int (0 : Int32), .ref 66])) rfl) ?_
    rcases okx h with ⟨e2, y1, hy1, h⟩ | ⟨v3, y4, hy4, h⟩
    · skip
      by_cases s0 : e2 = 0
      · have h := (if_pos s0).symm.trans h
        subst s0
        refine go_step (F1 := (13, [some (.ref 0), some (.int x1), some (.ref 66), none], [])) (M1 := (H, (false, z.2.1 + 1, z.2.2 + 6))) (fun _ => ev_callVC (x := (.invokevirtual 110, 3, 132, 10, 1089, .null)) (as := [.int x1]) (rest := [.int (0 : Int32), .ref 66]) rfl rfl u_0 rfl rfl (C_X11_check (S := S) (d := d) (z := z) (x1 := x1) u_1000000 u_17 u_0 u_18 u_22 u_19 hy1) rfl) ?_
        refine go_step (fun _ => ev_run 1 (F' := (14, [some (.ref 0), some (.int x1), some (.ref 66), none], [.int (1 : Int32)])) rfl) ?_
        cases h
        exact Or.inr ⟨_, ev_ret rfl rfl rfl rfl, H, rfl, u_66, xfr_refl⟩
      · have h := (if_neg s0).symm.trans h
        by_cases s3 : e2 = 3
        · have h := (if_pos s3).symm.trans h
          subst s3
          refine go_step (F1 := (16, [some (.ref 0), some (.int x1), some (.ref 66), none], [])) (M1 := (H, (false, z.2.1 + 1, z.2.2 + 6))) (fun _ => ev_callVC (x := (.invokevirtual 110, 3, 132, 10, 1089, .null)) (as := [.int x1]) (rest := [.int (0 : Int32), .ref 66]) rfl rfl u_0 rfl rfl (C_X11_check (S := S) (d := d) (z := z) (x1 := x1) u_1000000 u_17 u_0 u_18 u_22 u_19 hy1) rfl) ?_
          refine go_step (fun _ => ev_run 1 (F' := (17, [some (.ref 0), some (.int x1), some (.ref 66), none], [.int (2 : Int32)])) rfl) ?_
          cases h
          exact Or.inr ⟨_, ev_ret rfl rfl rfl rfl, H, rfl, u_66, xfr_refl⟩
        · have h := (if_neg s3).symm.trans h
          cases h
    · skip
      refine go_step (F1 := (7, [some (.ref 0), some (.int x1), some (.ref 66), none], [.int v3, .int (0 : Int32), .ref 66])) (M1 := (H, z)) (fun _ => ev_callV (x := (.invokevirtual 110, 3, 132, 10, 1089, .null)) (as := [.int x1]) (rest := [.int (0 : Int32), .ref 66]) rfl rfl u_0 (C_X11_check (S := S) (d := d) (z := z) (x1 := x1) u_1000000 u_17 u_0 u_18 u_22 u_19 hy4) rfl) ?_
      refine go_step (fun _ => ev_run 1 (F' := (8, [some (.ref 0), some (.int x1), some (.ref 66), none], [.long (v3.toInt64), .int (0 : Int32), .ref 66])) rfl) ?_
      refine go_last rfl u_66 rfl (fun H5 (eH5 : H5[66]? = some (.inl (1, 1, .inr (.inl (vp_updL a66 (0 : Int32).toNatClampNeg (v3.toInt64)))))) fH5 => ?_)
      refine go_step (fun _ => ev_run 2 (F' := (19, [some (.ref 0), some (.int x1), some (.ref 66), none], [.int (0 : Int32)])) rfl) ?_
      cases h
      exact Or.inr ⟨_, ev_ret rfl rfl rfl rfl, H5, rfl, eH5, (xfr_t xfr_refl rfl fH5)⟩
  obtain ⟨_, hE, H', rfl, hrest⟩ := go_end G
  exact ⟨H', hE, hrest⟩
def q_L_unseen (x1 : Int32) (x2 : Int32) (c17_1 : Int32) (a18 : Nat → Int32) (a22 : Nat → Int32) (c20_1 : Int32) (a21 : Nat → Int32) (a66 : Nat → Int64) : Option (Int32 × Bool × Int32 × (Nat → Int32) × (Nat → Int64)) := (xbnd (q_X11_unseen x1 x2 c17_1 a18 a22 c20_1 a21) (fun e2 y1 => (if e2 = 0 then (some ((1 : Int32), true, y1.1, y1.2, a66)) else if e2 = 3 then (some ((2 : Int32), true, y1.1, y1.2, a66)) else none)) (fun v3 y4 => (some ((0 : Int32), false, y4.1, y4.2, (vp_updL a66 (0 : Int32).toNatClampNeg (v3.toInt64))))))
theorem C_L_unseen {S : Nat × (Nat → Int32)} {d : Nat} {H : List xE} {z : Bool × Nat × Nat} {c17_1 : Int32} {a18 : Nat → Int32} {a22 : Nat → Int32} {c20_1 : Int32} {a21 : Nat → Int32} {a66 : Nat → Int64} {x1 : Int32} {x2 : Int32} (u_17 : H[17]? = some (.inr (4, [.ref 18, .int c17_1]))) (u_18 : H[18]? = some (.inl (0, 18, .inl a18))) (u_22 : H[22]? = some (.inl (0, 190, .inl a22))) (u_20 : H[20]? = some (.inr (4, [.ref 21, .int c20_1]))) (u_21 : H[21]? = some (.inl (0, 18, .inl a21))) (u_0 : H[0]? = some (oO)) (u_1000000 : H[1000000]? = none) (u_19 : H[19]? = some (.inr (5, [.ref 20, .ref 22]))) (u_66 : H[66]? = some (.inl (1, 1, .inr (.inl a66)))) {x : (Int32 × Bool × Int32 × (Nat → Int32) × (Nat → Int64))} (h : q_L_unseen x1 x2 c17_1 a18 a22 c20_1 a21 a66 = some x) : ∃ H' : List xE, Cm S (d + 6) 293 [.ref 0, .int x1, .int x2, .ref 66] (H, z) (.inr (some (.int x.1)), (H', zX x.2.1 z)) ∧ H'[20]? = some (.inr (4, [.ref 21, .int x.2.2.1])) ∧ H'[21]? = some (.inl (0, 18, .inl x.2.2.2.1)) ∧ H'[66]? = some (.inl (1, 1, .inr (.inl x.2.2.2.2))) ∧ xfr [20, 21, 66] H H' := by
  have G : Go S (d + 6) 293 (0, [some (.ref 0), some (.int x1), some (.int x2), some (.ref 66), none], []) (H, z) (fun _ _ => False) (fun r => ∃ H' : List xE, r = (.inr (some (.int x.1)), (H', zX x.2.1 z)) ∧ H'[20]? = some (.inr (4, [.ref 21, .int x.2.2.1])) ∧ H'[21]? = some (.inl (0, 18, .inl x.2.2.2.1)) ∧ H'[66]? = some (.inl (1, 1, .inr (.inl x.2.2.2.2))) ∧ xfr [20, 21, 66] H H') := by
    unfold q_L_unseen at h
    refine go_step (fun _ => ev_run 5 (F' := (5, [some (.ref 0), some (.int x1), some (.int x2), some (.ref 66), none], [.int x2, .int x1, .ref 0, .int (0 : Int32), .ref 66])) rfl) ?_
    rcases okx h with ⟨e2, y1, hy1, h⟩ | ⟨v3, y4, hy4, h⟩
    · skip
      obtain ⟨H5, hCH5, eH5_20, eH5_21, fH5⟩ := C_X11_unseen (S := S) (d := d) (z := z) (x1 := x1) (x2 := x2) u_1000000 u_17 u_0 u_18 u_22 u_20 u_21 u_19 hy1
      by_cases s0 : e2 = 0
      · have h := (if_pos s0).symm.trans h
        subst s0
        refine go_step (F1 := (15, [some (.ref 0), some (.int x1), some (.int x2), some (.ref 66), none], [])) (M1 := (H5, (false, z.2.1 + 1, z.2.2 + 6))) (fun _ => ev_callVC (x := (.invokevirtual 114, 3, 133, 10, 1106, .null)) (as := [.int x1, .int x2]) (rest := [.int (0 : Int32), .ref 66]) rfl rfl u_0 rfl rfl hCH5 rfl) ?_
        refine go_step (fun _ => ev_run 1 (F' := (16, [some (.ref 0), some (.int x1), some (.int x2), some (.ref 66), none], [.int (1 : Int32)])) rfl) ?_
        cases h
        exact Or.inr ⟨_, ev_ret rfl rfl rfl rfl, H5, rfl, eH5_20, eH5_21, ((fH5 66 rfl).trans u_66), (xfr_t xfr_refl rfl fH5)⟩
      · have h := (if_neg s0).symm.trans h
        by_cases s3 : e2 = 3
        · have h := (if_pos s3).symm.trans h
          subst s3
          refine go_step (F1 := (19, [some (.ref 0), some (.int x1), some (.int x2), some (.ref 66), none], [])) (M1 := (H5, (false, z.2.1 + 1, z.2.2 + 6))) (fun _ => ev_callVC (x := (.invokevirtual 114, 3, 133, 10, 1106, .null)) (as := [.int x1, .int x2]) (rest := [.int (0 : Int32), .ref 66]) rfl rfl u_0 rfl rfl hCH5 rfl) ?_
          refine go_step (fun _ => ev_run 1 (F' := (20, [some (.ref 0), some (.int x1), some (.int x2), some (.ref 66), none], [.int (2 : Int32)])) rfl) ?_
          cases h
          exact Or.inr ⟨_, ev_ret rfl rfl rfl rfl, H5, rfl, eH5_20, eH5_21, ((fH5 66 rfl).trans u_66), (xfr_t xfr_refl rfl fH5)⟩
        · have h := (if_neg s3).symm.trans h
          cases h
    · skip
      obtain ⟨H6, hCH6, eH6_20, eH6_21, fH6⟩ := C_X11_unseen (S := S) (d := d) (z := z) (x1 := x1) (x2 := x2) u_1000000 u_17 u_0 u_18 u_22 u_20 u_21 u_19 hy4
      refine go_step (F1 := (8, [some (.ref 0), some (.int x1), some (.int x2), some (.ref 66), none], [.int v3, .int (0 : Int32), .ref 66])) (M1 := (H6, z)) (fun _ => ev_callV (x := (.invokevirtual 114, 3, 133, 10, 1106, .null)) (as := [.int x1, .int x2]) (rest := [.int (0 : Int32), .ref 66]) rfl rfl u_0 hCH6 rfl) ?_
      refine go_step (fun _ => ev_run 1 (F' := (9, [some (.ref 0), some (.int x1), some (.int x2), some (.ref 66), none], [.long (v3.toInt64), .int (0 : Int32), .ref 66])) rfl) ?_
      refine go_last rfl ((fH6 66 rfl).trans u_66) rfl (fun H7 (eH7 : H7[66]? = some (.inl (1, 1, .inr (.inl (vp_updL a66 (0 : Int32).toNatClampNeg (v3.toInt64)))))) fH7 => ?_)
      refine go_step (fun _ => ev_run 2 (F' := (22, [some (.ref 0), some (.int x1), some (.int x2), some (.ref 66), none], [.int (0 : Int32)])) rfl) ?_
      cases h
      exact Or.inr ⟨_, ev_ret rfl rfl rfl rfl, H7, rfl, ((fH7 20 rfl).trans eH6_20), ((fH7 21 rfl).trans eH6_21), eH7, (xfr_t (xfr_t xfr_refl rfl fH6) rfl fH7)⟩
  obtain ⟨_, hE, H', rfl, hrest⟩ := go_end G
  exact ⟨H', hE, hrest⟩
def q_L_ware (c17_1 : Int32) (c23_4 : Int32) (c24_0 : Int32) (c31_1 : Int32) (a26 : Nat → Int32) (a25 : Nat → Int32) (a32 : Nat → Int32) (a18 : Nat → Int32) (a66 : Nat → Int64) : Option (Int32 × Bool × Int32 × Int32 × (Nat → Int32) × (Nat → Int32) × (Nat → Int32) × (Nat → Int64)) := (xbnd (q_X11_ware c17_1 c23_4 c24_0 c31_1 a26 a25 a32 a18) (fun e2 y1 => (if e2 = 3 then (some ((1 : Int32), true, y1.1, y1.2.1, y1.2.2.1, y1.2.2.2.1, y1.2.2.2.2, a66)) else if e2 = 5 then (some ((2 : Int32), true, y1.1, y1.2.1, y1.2.2.1, y1.2.2.2.1, y1.2.2.2.2, a66)) else if e2 = 1 then (some ((3 : Int32), true, y1.1, y1.2.1, y1.2.2.1, y1.2.2.2.1, y1.2.2.2.2, a66)) else none)) (fun v3 y4 => (some ((0 : Int32), false, y4.1, y4.2.1, y4.2.2.1, y4.2.2.2.1, y4.2.2.2.2, (vp_updL a66 (0 : Int32).toNatClampNeg (v3.toInt64))))))
theorem C_L_ware {S : Nat × (Nat → Int32)} {d : Nat} {H : List xE} {z : Bool × Nat × Nat} {c17_1 : Int32} {c23_4 : Int32} {c24_0 : Int32} {c31_1 : Int32} {a26 : Nat → Int32} {a25 : Nat → Int32} {a32 : Nat → Int32} {a18 : Nat → Int32} {a66 : Nat → Int64} (u_17 : H[17]? = some (.inr (4, [.ref 18, .int c17_1]))) (u_23 : H[23]? = some (.inr (9, [.ref 24, .ref 27, .ref 29, .ref 31, .int c23_4]))) (u_24 : H[24]? = some (.inr (7, [.int c24_0, .ref 25, .ref 26]))) (u_31 : H[31]? = some (.inr (4, [.ref 32, .int c31_1]))) (u_26 : H[26]? = some (.inl (0, 20, .inl a26))) (u_25 : H[25]? = some (.inl (0, 180, .inl a25))) (u_32 : H[32]? = some (.inl (0, 9, .inl a32))) (u_18 : H[18]? = some (.inl (0, 18, .inl a18))) (u_0 : H[0]? = some (oO)) (u_66 : H[66]? = some (.inl (1, 1, .inr (.inl a66)))) {x : (Int32 × Bool × Int32 × Int32 × (Nat → Int32) × (Nat → Int32) × (Nat → Int32) × (Nat → Int64))} (h : q_L_ware c17_1 c23_4 c24_0 c31_1 a26 a25 a32 a18 a66 = some x) : ∃ H' : List xE, Cm S (d + 6) 294 [.ref 0, .ref 66] (H, z) (.inr (some (.int x.1)), (H', zX x.2.1 z)) ∧ H'[23]? = some (.inr (9, [.ref 24, .ref 27, .ref 29, .ref 31, .int x.2.2.1])) ∧ H'[31]? = some (.inr (4, [.ref 32, .int x.2.2.2.1])) ∧ H'[26]? = some (.inl (0, 20, .inl x.2.2.2.2.1)) ∧ H'[25]? = some (.inl (0, 180, .inl x.2.2.2.2.2.1)) ∧ H'[32]? = some (.inl (0, 9, .inl x.2.2.2.2.2.2.1)) ∧ H'[66]? = some (.inl (1, 1, .inr (.inl x.2.2.2.2.2.2.2))) ∧ xfr [23, 31, 26, 25, 32, 66] H H' := by
  have G : Go S (d + 6) 294 (0, [some (.ref 0), some (.ref 66), none], []) (H, z) (fun _ _ => False) (fun r => ∃ H' : List xE, r = (.inr (some (.int x.1)), (H', zX x.2.1 z)) ∧ H'[23]? = some (.inr (9, [.ref 24, .ref 27, .ref 29, .ref 31, .int x.2.2.1])) ∧ H'[31]? = some (.inr (4, [.ref 32, .int x.2.2.2.1])) ∧ H'[26]? = some (.inl (0, 20, .inl x.2.2.2.2.1)) ∧ H'[25]? = some (.inl (0, 180, .inl x.2.2.2.2.2.1)) ∧ H'[32]? = some (.inl (0, 9, .inl x.2.2.2.2.2.2.1)) ∧ H'[66]? = some (.inl (1, 1, .inr (.inl x.2.2.2.2.2.2.2))) ∧ xfr [23, 31, 26, 25, 32, 66] H H') := by
    unfold q_L_ware at h
    refine go_step (fun _ => ev_run 3 (F' := (3, [some (.ref 0), some (.ref 66), none], [.ref 0, .int (0 : Int32), .ref 66])) rfl) ?_
    rcases okx h with ⟨e2, y1, hy1, h⟩ | ⟨v3, y4, hy4, h⟩
    · skip
      obtain ⟨H5, hCH5, eH5_23, eH5_31, eH5_26, eH5_25, eH5_32, fH5⟩ := C_X11_ware (S := S) (d := d) (z := z) u_17 u_0 u_23 u_24 u_31 u_26 u_25 u_32 u_18 hy1
      by_cases s3 : e2 = 3
      · have h := (if_pos s3).symm.trans h
        subst s3
        refine go_step (F1 := (12, [some (.ref 0), some (.ref 66), none], [])) (M1 := (H5, (false, z.2.1 + 1, z.2.2 + 6))) (fun _ => ev_callVC (x := (.invokevirtual 118, 3, 134, 10, 1114, .null)) (as := []) (rest := [.int (0 : Int32), .ref 66]) rfl rfl u_0 rfl rfl hCH5 rfl) ?_
        refine go_step (fun _ => ev_run 1 (F' := (13, [some (.ref 0), some (.ref 66), none], [.int (1 : Int32)])) rfl) ?_
        cases h
        exact Or.inr ⟨_, ev_ret rfl rfl rfl rfl, H5, rfl, eH5_23, eH5_31, eH5_26, eH5_25, eH5_32, ((fH5 66 rfl).trans u_66), (xfr_t xfr_refl rfl fH5)⟩
      · have h := (if_neg s3).symm.trans h
        by_cases s5 : e2 = 5
        · have h := (if_pos s5).symm.trans h
          subst s5
          refine go_step (F1 := (15, [some (.ref 0), some (.ref 66), none], [])) (M1 := (H5, (false, z.2.1 + 1, z.2.2 + 6))) (fun _ => ev_callVC (x := (.invokevirtual 118, 3, 134, 10, 1114, .null)) (as := []) (rest := [.int (0 : Int32), .ref 66]) rfl rfl u_0 rfl rfl hCH5 rfl) ?_
          refine go_step (fun _ => ev_run 1 (F' := (16, [some (.ref 0), some (.ref 66), none], [.int (2 : Int32)])) rfl) ?_
          cases h
          exact Or.inr ⟨_, ev_ret rfl rfl rfl rfl, H5, rfl, eH5_23, eH5_31, eH5_26, eH5_25, eH5_32, ((fH5 66 rfl).trans u_66), (xfr_t xfr_refl rfl fH5)⟩
        · have h := (if_neg s5).symm.trans h
          by_cases s1 : e2 = 1
          · have h := (if_pos s1).symm.trans h
            subst s1
            refine go_step (F1 := (18, [some (.ref 0), some (.ref 66), none], [])) (M1 := (H5, (false, z.2.1 + 1, z.2.2 + 6))) (fun _ => ev_callVC (x := (.invokevirtual 118, 3, 134, 10, 1114, .null)) (as := []) (rest := [.int (0 : Int32), .ref 66]) rfl rfl u_0 rfl rfl hCH5 rfl) ?_
            refine go_step (fun _ => ev_run 1 (F' := (19, [some (.ref 0), some (.ref 66), none], [.int (3 : Int32)])) rfl) ?_
            cases h
            exact Or.inr ⟨_, ev_ret rfl rfl rfl rfl, H5, rfl, eH5_23, eH5_31, eH5_26, eH5_25, eH5_32, ((fH5 66 rfl).trans u_66), (xfr_t xfr_refl rfl fH5)⟩
          · have h := (if_neg s1).symm.trans h
            cases h
    · skip
      obtain ⟨H6, hCH6, eH6_23, eH6_31, eH6_26, eH6_25, eH6_32, fH6⟩ := C_X11_ware (S := S) (d := d) (z := z) u_17 u_0 u_23 u_24 u_31 u_26 u_25 u_32 u_18 hy4
      refine go_step (F1 := (6, [some (.ref 0), some (.ref 66), none], [.int v3, .int (0 : Int32), .ref 66])) (M1 := (H6, z)) (fun _ => ev_callV (x := (.invokevirtual 118, 3, 134, 10, 1114, .null)) (as := []) (rest := [.int (0 : Int32), .ref 66]) rfl rfl u_0 hCH6 rfl) ?_
      refine go_step (fun _ => ev_run 1 (F' := (7, [some (.ref 0), some (.ref 66), none], [.long (v3.toInt64), .int (0 : Int32), .ref 66])) rfl) ?_
      refine go_last rfl ((fH6 66 rfl).trans u_66) rfl (fun H7 (eH7 : H7[66]? = some (.inl (1, 1, .inr (.inl (vp_updL a66 (0 : Int32).toNatClampNeg (v3.toInt64)))))) fH7 => ?_)
      refine go_step (fun _ => ev_run 2 (F' := (21, [some (.ref 0), some (.ref 66), none], [.int (0 : Int32)])) rfl) ?_
      cases h
      exact Or.inr ⟨_, ev_ret rfl rfl rfl rfl, H7, rfl, ((fH7 23 rfl).trans eH6_23), ((fH7 31 rfl).trans eH6_31), ((fH7 26 rfl).trans eH6_26), ((fH7 25 rfl).trans eH6_25), ((fH7 32 rfl).trans eH6_32), eH7, (xfr_t (xfr_t xfr_refl rfl fH6) rfl fH7)⟩
  obtain ⟨_, hE, H', rfl, hrest⟩ := go_end G
  exact ⟨H', hE, hrest⟩
def q_L_meant (c17_1 : Int32) (c23_4 : Int32) (c24_0 : Int32) (c31_1 : Int32) (a26 : Nat → Int32) (a25 : Nat → Int32) (a32 : Nat → Int32) (a18 : Nat → Int32) (a66 : Nat → Int64) : Option (Int32 × Bool × Int32 × (Nat → Int32) × (Nat → Int64)) := (xbnd (q_X11_meant c17_1 c23_4 c24_0 c31_1 a26 a25 a32 a18) (fun e2 y1 => (if e2 = 3 then (some ((1 : Int32), true, y1.1, y1.2, a66)) else none)) (fun v3 y4 => (some ((0 : Int32), false, y4.1, y4.2, (vp_updL a66 (0 : Int32).toNatClampNeg (v3.toInt64))))))
theorem C_L_meant {S : Nat × (Nat → Int32)} {d : Nat} {H : List xE} {z : Bool × Nat × Nat} {c17_1 : Int32} {c23_4 : Int32} {c24_0 : Int32} {c31_1 : Int32} {a26 : Nat → Int32} {a25 : Nat → Int32} {a32 : Nat → Int32} {a18 : Nat → Int32} {a66 : Nat → Int64} (u_17 : H[17]? = some (.inr (4, [.ref 18, .int c17_1]))) (u_23 : H[23]? = some (.inr (9, [.ref 24, .ref 27, .ref 29, .ref 31, .int c23_4]))) (u_24 : H[24]? = some (.inr (7, [.int c24_0, .ref 25, .ref 26]))) (u_31 : H[31]? = some (.inr (4, [.ref 32, .int c31_1]))) (u_26 : H[26]? = some (.inl (0, 20, .inl a26))) (u_25 : H[25]? = some (.inl (0, 180, .inl a25))) (u_32 : H[32]? = some (.inl (0, 9, .inl a32))) (u_18 : H[18]? = some (.inl (0, 18, .inl a18))) (u_0 : H[0]? = some (oO)) (u_66 : H[66]? = some (.inl (1, 1, .inr (.inl a66)))) {x : (Int32 × Bool × Int32 × (Nat → Int32) × (Nat → Int64))} (h : q_L_meant c17_1 c23_4 c24_0 c31_1 a26 a25 a32 a18 a66 = some x) : ∃ H' : List xE, Cm S (d + 6) 295 [.ref 0, .ref 66] (H, z) (.inr (some (.int x.1)), (H', zX x.2.1 z)) ∧ H'[31]? = some (.inr (4, [.ref 32, .int x.2.2.1])) ∧ H'[32]? = some (.inl (0, 9, .inl x.2.2.2.1)) ∧ H'[66]? = some (.inl (1, 1, .inr (.inl x.2.2.2.2))) ∧ xfr [31, 32, 66] H H' := by
  have G : Go S (d + 6) 295 (0, [some (.ref 0), some (.ref 66), none], []) (H, z) (fun _ _ => False) (fun r => ∃ H' : List xE, r = (.inr (some (.int x.1)), (H', zX x.2.1 z)) ∧ H'[31]? = some (.inr (4, [.ref 32, .int x.2.2.1])) ∧ H'[32]? = some (.inl (0, 9, .inl x.2.2.2.1)) ∧ H'[66]? = some (.inl (1, 1, .inr (.inl x.2.2.2.2))) ∧ xfr [31, 32, 66] H H') := by
    unfold q_L_meant at h
    refine go_step (fun _ => ev_run 3 (F' := (3, [some (.ref 0), some (.ref 66), none], [.ref 0, .int (0 : Int32), .ref 66])) rfl) ?_
    rcases okx h with ⟨e2, y1, hy1, h⟩ | ⟨v3, y4, hy4, h⟩
    · skip
      obtain ⟨H5, hCH5, eH5_31, eH5_32, fH5⟩ := C_X11_meant (S := S) (d := d) (z := z) u_17 u_0 u_23 u_24 u_31 u_26 u_25 u_32 u_18 hy1
      by_cases s3 : e2 = 3
      · have h := (if_pos s3).symm.trans h
        subst s3
        refine go_step (F1 := (12, [some (.ref 0), some (.ref 66), none], [])) (M1 := (H5, (false, z.2.1 + 1, z.2.2 + 6))) (fun _ => ev_callVC (x := (.invokevirtual 121, 3, 135, 10, 1142, .null)) (as := []) (rest := [.int (0 : Int32), .ref 66]) rfl rfl u_0 rfl rfl hCH5 rfl) ?_
        refine go_step (fun _ => ev_run 1 (F' := (13, [some (.ref 0), some (.ref 66), none], [.int (1 : Int32)])) rfl) ?_
        cases h
        exact Or.inr ⟨_, ev_ret rfl rfl rfl rfl, H5, rfl, eH5_31, eH5_32, ((fH5 66 rfl).trans u_66), (xfr_t xfr_refl rfl fH5)⟩
      · have h := (if_neg s3).symm.trans h
        cases h
    · skip
      obtain ⟨H6, hCH6, eH6_31, eH6_32, fH6⟩ := C_X11_meant (S := S) (d := d) (z := z) u_17 u_0 u_23 u_24 u_31 u_26 u_25 u_32 u_18 hy4
      refine go_step (F1 := (6, [some (.ref 0), some (.ref 66), none], [.int v3, .int (0 : Int32), .ref 66])) (M1 := (H6, z)) (fun _ => ev_callV (x := (.invokevirtual 121, 3, 135, 10, 1142, .null)) (as := []) (rest := [.int (0 : Int32), .ref 66]) rfl rfl u_0 hCH6 rfl) ?_
      refine go_step (fun _ => ev_run 1 (F' := (7, [some (.ref 0), some (.ref 66), none], [.long (v3.toInt64), .int (0 : Int32), .ref 66])) rfl) ?_
      refine go_last rfl ((fH6 66 rfl).trans u_66) rfl (fun H7 (eH7 : H7[66]? = some (.inl (1, 1, .inr (.inl (vp_updL a66 (0 : Int32).toNatClampNeg (v3.toInt64)))))) fH7 => ?_)
      refine go_step (fun _ => ev_run 2 (F' := (15, [some (.ref 0), some (.ref 66), none], [.int (0 : Int32)])) rfl) ?_
      cases h
      exact Or.inr ⟨_, ev_ret rfl rfl rfl rfl, H7, rfl, ((fH7 31 rfl).trans eH6_31), ((fH7 32 rfl).trans eH6_32), eH7, (xfr_t (xfr_t xfr_refl rfl fH6) rfl fH7)⟩
  obtain ⟨_, hE, H', rfl, hrest⟩ := go_end G
  exact ⟨H', hE, hrest⟩
def q_L_nextWare (x1 : Int32) (c23_4 : Int32) (c24_0 : Int32) (a26 : Nat → Int32) (a25 : Nat → Int32) (a28 : Nat → Int32) (c31_1 : Int32) (a32 : Nat → Int32) (c29_1 : Int32) (a30 : Nat → Int32) (c27_1 : Int32) (a66 : Nat → Int64) : Option (Int32 × Bool × (Nat → Int32) × Int32 × (Nat → Int32) × Int32 × (Nat → Int32) × Int32 × (Nat → Int64)) := (xbnd (q_X11_nextWare x1 c23_4 c24_0 a26 a25 a28 c31_1 a32 c29_1 a30 c27_1) (fun e2 y1 => (if e2 = 2 then (some ((1 : Int32), true, y1.1, y1.2.1, y1.2.2.1, y1.2.2.2.1, y1.2.2.2.2.1, y1.2.2.2.2.2, a66)) else none)) (fun v3 y4 => (some ((0 : Int32), false, y4.1, y4.2.1, y4.2.2.1, y4.2.2.2.1, y4.2.2.2.2.1, y4.2.2.2.2.2, (vp_updL a66 (0 : Int32).toNatClampNeg (v3.toInt64))))))
theorem C_L_nextWare {S : Nat × (Nat → Int32)} {d : Nat} {H : List xE} {z : Bool × Nat × Nat} {c23_4 : Int32} {c24_0 : Int32} {a26 : Nat → Int32} {a25 : Nat → Int32} {a28 : Nat → Int32} {c31_1 : Int32} {a32 : Nat → Int32} {c29_1 : Int32} {a30 : Nat → Int32} {c27_1 : Int32} {a66 : Nat → Int64} {x1 : Int32} (u_23 : H[23]? = some (.inr (9, [.ref 24, .ref 27, .ref 29, .ref 31, .int c23_4]))) (u_24 : H[24]? = some (.inr (7, [.int c24_0, .ref 25, .ref 26]))) (u_26 : H[26]? = some (.inl (0, 20, .inl a26))) (u_25 : H[25]? = some (.inl (0, 180, .inl a25))) (u_28 : H[28]? = some (.inl (0, 9, .inl a28))) (u_31 : H[31]? = some (.inr (4, [.ref 32, .int c31_1]))) (u_32 : H[32]? = some (.inl (0, 9, .inl a32))) (u_29 : H[29]? = some (.inr (4, [.ref 30, .int c29_1]))) (u_30 : H[30]? = some (.inl (0, 9, .inl a30))) (u_27 : H[27]? = some (.inr (4, [.ref 28, .int c27_1]))) (u_0 : H[0]? = some (oO)) (u_66 : H[66]? = some (.inl (1, 1, .inr (.inl a66)))) {x : (Int32 × Bool × (Nat → Int32) × Int32 × (Nat → Int32) × Int32 × (Nat → Int32) × Int32 × (Nat → Int64))} (h : q_L_nextWare x1 c23_4 c24_0 a26 a25 a28 c31_1 a32 c29_1 a30 c27_1 a66 = some x) : ∃ H' : List xE, Cm S (d + 6) 296 [.ref 0, .int x1, .ref 66] (H, z) (.inr (some (.int x.1)), (H', zX x.2.1 z)) ∧ H'[28]? = some (.inl (0, 9, .inl x.2.2.1)) ∧ H'[31]? = some (.inr (4, [.ref 32, .int x.2.2.2.1])) ∧ H'[32]? = some (.inl (0, 9, .inl x.2.2.2.2.1)) ∧ H'[29]? = some (.inr (4, [.ref 30, .int x.2.2.2.2.2.1])) ∧ H'[30]? = some (.inl (0, 9, .inl x.2.2.2.2.2.2.1)) ∧ H'[27]? = some (.inr (4, [.ref 28, .int x.2.2.2.2.2.2.2.1])) ∧ H'[66]? = some (.inl (1, 1, .inr (.inl x.2.2.2.2.2.2.2.2))) ∧ xfr [28, 31, 32, 29, 30, 27, 66] H H' := by
  have G : Go S (d + 6) 296 (0, [some (.ref 0), some (.int x1), some (.ref 66), none], []) (H, z) (fun _ _ => False) (fun r => ∃ H' : List xE, r = (.inr (some (.int x.1)), (H', zX x.2.1 z)) ∧ H'[28]? = some (.inl (0, 9, .inl x.2.2.1)) ∧ H'[31]? = some (.inr (4, [.ref 32, .int x.2.2.2.1])) ∧ H'[32]? = some (.inl (0, 9, .inl x.2.2.2.2.1)) ∧ H'[29]? = some (.inr (4, [.ref 30, .int x.2.2.2.2.2.1])) ∧ H'[30]? = some (.inl (0, 9, .inl x.2.2.2.2.2.2.1)) ∧ H'[27]? = some (.inr (4, [.ref 28, .int x.2.2.2.2.2.2.2.1])) ∧ H'[66]? = some (.inl (1, 1, .inr (.inl x.2.2.2.2.2.2.2.2))) ∧ xfr [28, 31, 32, 29, 30, 27, 66] H H') := by
    unfold q_L_nextWare at h
    refine go_step (fun _ => ev_run 4 (F' := (4, [some (.ref 0), some (.int x1), some (.ref 66), none], [.int x1, .ref 0, .int (0 : Int32), .ref 66])) rfl) ?_
    rcases okx h with ⟨e2, y1, hy1, h⟩ | ⟨v3, y4, hy4, h⟩
    · skip
      obtain ⟨H5, hCH5, eH5_28, eH5_31, eH5_32, eH5_29, eH5_30, eH5_27, fH5⟩ := C_X11_nextWare (S := S) (d := d) (z := z) (x1 := x1) u_0 u_23 u_24 u_26 u_25 u_28 u_31 u_32 u_29 u_30 u_27 hy1
      by_cases s2 : e2 = 2
      · have h := (if_pos s2).symm.trans h
        subst s2
        refine go_step (F1 := (13, [some (.ref 0), some (.int x1), some (.ref 66), none], [])) (M1 := (H5, (false, z.2.1 + 1, z.2.2 + 6))) (fun _ => ev_callVC (x := (.invokevirtual 124, 3, 136, 10, 1158, .null)) (as := [.int x1]) (rest := [.int (0 : Int32), .ref 66]) rfl rfl u_0 rfl rfl hCH5 rfl) ?_
        refine go_step (fun _ => ev_run 1 (F' := (14, [some (.ref 0), some (.int x1), some (.ref 66), none], [.int (1 : Int32)])) rfl) ?_
        cases h
        exact Or.inr ⟨_, ev_ret rfl rfl rfl rfl, H5, rfl, eH5_28, eH5_31, eH5_32, eH5_29, eH5_30, eH5_27, ((fH5 66 rfl).trans u_66), (xfr_t xfr_refl rfl fH5)⟩
      · have h := (if_neg s2).symm.trans h
        cases h
    · skip
      obtain ⟨H6, hCH6, eH6_28, eH6_31, eH6_32, eH6_29, eH6_30, eH6_27, fH6⟩ := C_X11_nextWare (S := S) (d := d) (z := z) (x1 := x1) u_0 u_23 u_24 u_26 u_25 u_28 u_31 u_32 u_29 u_30 u_27 hy4
      refine go_step (F1 := (7, [some (.ref 0), some (.int x1), some (.ref 66), none], [.int v3, .int (0 : Int32), .ref 66])) (M1 := (H6, z)) (fun _ => ev_callV (x := (.invokevirtual 124, 3, 136, 10, 1158, .null)) (as := [.int x1]) (rest := [.int (0 : Int32), .ref 66]) rfl rfl u_0 hCH6 rfl) ?_
      refine go_step (fun _ => ev_run 1 (F' := (8, [some (.ref 0), some (.int x1), some (.ref 66), none], [.long (v3.toInt64), .int (0 : Int32), .ref 66])) rfl) ?_
      refine go_last rfl ((fH6 66 rfl).trans u_66) rfl (fun H7 (eH7 : H7[66]? = some (.inl (1, 1, .inr (.inl (vp_updL a66 (0 : Int32).toNatClampNeg (v3.toInt64)))))) fH7 => ?_)
      refine go_step (fun _ => ev_run 2 (F' := (16, [some (.ref 0), some (.int x1), some (.ref 66), none], [.int (0 : Int32)])) rfl) ?_
      cases h
      exact Or.inr ⟨_, ev_ret rfl rfl rfl rfl, H7, rfl, ((fH7 28 rfl).trans eH6_28), ((fH7 31 rfl).trans eH6_31), ((fH7 32 rfl).trans eH6_32), ((fH7 29 rfl).trans eH6_29), ((fH7 30 rfl).trans eH6_30), ((fH7 27 rfl).trans eH6_27), eH7, (xfr_t (xfr_t xfr_refl rfl fH6) rfl fH7)⟩
  obtain ⟨_, hE, H', rfl, hrest⟩ := go_end G
  exact ⟨H', hE, hrest⟩
def q_L_rolling (x1 : Int32) (x2 : Int32) (c1_1 : Int32) (a2 : Nat → Int32) (a66 : Nat → Int64) : Option (Int32 × Bool × (Nat → Int64)) := (xbnd (q_X11_rolling x1 x2 c1_1 a2) (fun e2 y1 => (if e2 = 2 then (some ((1 : Int32), true, a66)) else if e2 = 0 then (some ((2 : Int32), true, a66)) else if e2 = 3 then (some ((3 : Int32), true, a66)) else none)) (fun v3 y4 => (some ((0 : Int32), false, (vp_updL a66 (0 : Int32).toNatClampNeg (v3.toInt64))))))
theorem C_L_rolling {S : Nat × (Nat → Int32)} {d : Nat} {H : List xE} {z : Bool × Nat × Nat} {c1_1 : Int32} {a2 : Nat → Int32} {a66 : Nat → Int64} {x1 : Int32} {x2 : Int32} (u_1 : H[1]? = some (.inr (4, [.ref 2, .int c1_1]))) (u_2 : H[2]? = some (.inl (0, 64, .inl a2))) (u_0 : H[0]? = some (oO)) (u_66 : H[66]? = some (.inl (1, 1, .inr (.inl a66)))) {x : (Int32 × Bool × (Nat → Int64))} (h : q_L_rolling x1 x2 c1_1 a2 a66 = some x) : ∃ H' : List xE, Cm S (d + 3) 297 [.ref 0, .int x1, .int x2, .ref 66] (H, z) (.inr (some (.int x.1)), (H', zX x.2.1 z)) ∧ H'[66]? = some (.inl (1, 1, .inr (.inl x.2.2))) ∧ xfr [66] H H' := by
  have G : Go S (d + 3) 297 (0, [some (.ref 0), some (.int x1), some (.int x2), some (.ref 66), none], []) (H, z) (fun _ _ => False) (fun r => ∃ H' : List xE, r = (.inr (some (.int x.1)), (H', zX x.2.1 z)) ∧ H'[66]? = some (.inl (1, 1, .inr (.inl x.2.2))) ∧ xfr [66] H H') := by
    unfold q_L_rolling at h
    refine go_step (fun _ => ev_run 5 (F' := (5, [some (.ref 0), some (.int x1), some (.int x2), some (.ref 66), none], [.int x2, .int x1, .ref 0, .int (0 : Int32), .ref 66])) rfl) ?_
    rcases okx h with ⟨e2, y1, hy1, h⟩ | ⟨v3, y4, hy4, h⟩
    · skip
      by_cases s2 : e2 = 2
      · have h := (if_pos s2).symm.trans h
        subst s2
        refine go_step (F1 := (15, [some (.ref 0), some (.int x1), some (.int x2), some (.ref 66), none], [])) (M1 := (H, (false, z.2.1 + 1, z.2.2 + 6))) (fun _ => ev_callVC (x := (.invokevirtual 127, 3, 139, 10, 1175, .null)) (as := [.int x1, .int x2]) (rest := [.int (0 : Int32), .ref 66]) rfl rfl u_0 rfl rfl (C_X11_rolling (S := S) (d := d) (z := z) (x1 := x1) (x2 := x2) u_1 u_0 u_2 hy1) rfl) ?_
        refine go_step (fun _ => ev_run 1 (F' := (16, [some (.ref 0), some (.int x1), some (.int x2), some (.ref 66), none], [.int (1 : Int32)])) rfl) ?_
        cases h
        exact Or.inr ⟨_, ev_ret rfl rfl rfl rfl, H, rfl, u_66, xfr_refl⟩
      · have h := (if_neg s2).symm.trans h
        by_cases s0 : e2 = 0
        · have h := (if_pos s0).symm.trans h
          subst s0
          refine go_step (F1 := (19, [some (.ref 0), some (.int x1), some (.int x2), some (.ref 66), none], [])) (M1 := (H, (false, z.2.1 + 1, z.2.2 + 6))) (fun _ => ev_callVC (x := (.invokevirtual 127, 3, 139, 10, 1175, .null)) (as := [.int x1, .int x2]) (rest := [.int (0 : Int32), .ref 66]) rfl rfl u_0 rfl rfl (C_X11_rolling (S := S) (d := d) (z := z) (x1 := x1) (x2 := x2) u_1 u_0 u_2 hy1) rfl) ?_
          refine go_step (fun _ => ev_run 1 (F' := (20, [some (.ref 0), some (.int x1), some (.int x2), some (.ref 66), none], [.int (2 : Int32)])) rfl) ?_
          cases h
          exact Or.inr ⟨_, ev_ret rfl rfl rfl rfl, H, rfl, u_66, xfr_refl⟩
        · have h := (if_neg s0).symm.trans h
          by_cases s3 : e2 = 3
          · have h := (if_pos s3).symm.trans h
            subst s3
            refine go_step (F1 := (23, [some (.ref 0), some (.int x1), some (.int x2), some (.ref 66), none], [])) (M1 := (H, (false, z.2.1 + 1, z.2.2 + 6))) (fun _ => ev_callVC (x := (.invokevirtual 127, 3, 139, 10, 1175, .null)) (as := [.int x1, .int x2]) (rest := [.int (0 : Int32), .ref 66]) rfl rfl u_0 rfl rfl (C_X11_rolling (S := S) (d := d) (z := z) (x1 := x1) (x2 := x2) u_1 u_0 u_2 hy1) rfl) ?_
            refine go_step (fun _ => ev_run 1 (F' := (24, [some (.ref 0), some (.int x1), some (.int x2), some (.ref 66), none], [.int (3 : Int32)])) rfl) ?_
            cases h
            exact Or.inr ⟨_, ev_ret rfl rfl rfl rfl, H, rfl, u_66, xfr_refl⟩
          · have h := (if_neg s3).symm.trans h
            cases h
    · skip
      refine go_step (F1 := (8, [some (.ref 0), some (.int x1), some (.int x2), some (.ref 66), none], [.int v3, .int (0 : Int32), .ref 66])) (M1 := (H, z)) (fun _ => ev_callV (x := (.invokevirtual 127, 3, 139, 10, 1175, .null)) (as := [.int x1, .int x2]) (rest := [.int (0 : Int32), .ref 66]) rfl rfl u_0 (C_X11_rolling (S := S) (d := d) (z := z) (x1 := x1) (x2 := x2) u_1 u_0 u_2 hy4) rfl) ?_
      refine go_step (fun _ => ev_run 1 (F' := (9, [some (.ref 0), some (.int x1), some (.int x2), some (.ref 66), none], [.long (v3.toInt64), .int (0 : Int32), .ref 66])) rfl) ?_
      refine go_last rfl u_66 rfl (fun H5 (eH5 : H5[66]? = some (.inl (1, 1, .inr (.inl (vp_updL a66 (0 : Int32).toNatClampNeg (v3.toInt64)))))) fH5 => ?_)
      refine go_step (fun _ => ev_run 2 (F' := (26, [some (.ref 0), some (.int x1), some (.int x2), some (.ref 66), none], [.int (0 : Int32)])) rfl) ?_
      cases h
      exact Or.inr ⟨_, ev_ret rfl rfl rfl rfl, H5, rfl, eH5, (xfr_t xfr_refl rfl fH5)⟩
  obtain ⟨_, hE, H', rfl, hrest⟩ := go_end G
  exact ⟨H', hE, hrest⟩
def q_L_chunks (x1 : Int32) (x2 : Int32) (c35_3 : Int32) (c36_1 : Int32) (c1_1 : Int32) (a37 : Nat → Int32) (a2 : Nat → Int32) (a38 : Nat → Int32) (a66 : Nat → Int64) : Option (Int32 × Bool × Int32 × Int32 × (Nat → Int32) × (Nat → Int32) × (Nat → Int64)) := (xbnd (q_X11_chunks x1 x2 c35_3 c36_1 c1_1 a37 a2 a38) (fun e2 y1 => (if e2 = 0 then (some ((1 : Int32), true, y1.1, y1.2.1, y1.2.2.1, y1.2.2.2, a66)) else none)) (fun v3 y4 => (some ((0 : Int32), false, y4.1, y4.2.1, y4.2.2.1, y4.2.2.2, (vp_updL a66 (0 : Int32).toNatClampNeg (v3.toInt64))))))
theorem C_L_chunks {S : Nat × (Nat → Int32)} {d : Nat} {H : List xE} {z : Bool × Nat × Nat} {c35_3 : Int32} {c36_1 : Int32} {c1_1 : Int32} {a37 : Nat → Int32} {a2 : Nat → Int32} {a38 : Nat → Int32} {a66 : Nat → Int64} {x1 : Int32} {x2 : Int32} (u_35 : H[35]? = some (.inr (0, [.ref 36, .ref 38, .ref 39, .int c35_3]))) (u_36 : H[36]? = some (.inr (4, [.ref 37, .int c36_1]))) (u_1 : H[1]? = some (.inr (4, [.ref 2, .int c1_1]))) (u_37 : H[37]? = some (.inl (0, 65, .inl a37))) (u_2 : H[2]? = some (.inl (0, 64, .inl a2))) (u_38 : H[38]? = some (.inl (0, 65, .inl a38))) (u_0 : H[0]? = some (oO)) (u_66 : H[66]? = some (.inl (1, 1, .inr (.inl a66)))) {x : (Int32 × Bool × Int32 × Int32 × (Nat → Int32) × (Nat → Int32) × (Nat → Int64))} (h : q_L_chunks x1 x2 c35_3 c36_1 c1_1 a37 a2 a38 a66 = some x) : ∃ H' : List xE, Cm S (d + 5) 298 [.ref 0, .int x1, .int x2, .ref 66] (H, z) (.inr (some (.int x.1)), (H', zX x.2.1 z)) ∧ H'[35]? = some (.inr (0, [.ref 36, .ref 38, .ref 39, .int x.2.2.1])) ∧ H'[36]? = some (.inr (4, [.ref 37, .int x.2.2.2.1])) ∧ H'[37]? = some (.inl (0, 65, .inl x.2.2.2.2.1)) ∧ H'[38]? = some (.inl (0, 65, .inl x.2.2.2.2.2.1)) ∧ H'[66]? = some (.inl (1, 1, .inr (.inl x.2.2.2.2.2.2))) ∧ xfr [35, 36, 37, 38, 66] H H' := by
  have G : Go S (d + 5) 298 (0, [some (.ref 0), some (.int x1), some (.int x2), some (.ref 66), none], []) (H, z) (fun _ _ => False) (fun r => ∃ H' : List xE, r = (.inr (some (.int x.1)), (H', zX x.2.1 z)) ∧ H'[35]? = some (.inr (0, [.ref 36, .ref 38, .ref 39, .int x.2.2.1])) ∧ H'[36]? = some (.inr (4, [.ref 37, .int x.2.2.2.1])) ∧ H'[37]? = some (.inl (0, 65, .inl x.2.2.2.2.1)) ∧ H'[38]? = some (.inl (0, 65, .inl x.2.2.2.2.2.1)) ∧ H'[66]? = some (.inl (1, 1, .inr (.inl x.2.2.2.2.2.2))) ∧ xfr [35, 36, 37, 38, 66] H H') := by
    unfold q_L_chunks at h
    refine go_step (fun _ => ev_run 5 (F' := (5, [some (.ref 0), some (.int x1), some (.int x2), some (.ref 66), none], [.int x2, .int x1, .ref 0, .int (0 : Int32), .ref 66])) rfl) ?_
    rcases okx h with ⟨e2, y1, hy1, h⟩ | ⟨v3, y4, hy4, h⟩
    · skip
      obtain ⟨H5, hCH5, eH5_35, eH5_36, eH5_37, eH5_38, fH5⟩ := C_X11_chunks (S := S) (d := d) (z := z) (x1 := x1) (x2 := x2) u_0 u_35 u_36 u_1 u_37 u_2 u_38 hy1
      by_cases s0 : e2 = 0
      · have h := (if_pos s0).symm.trans h
        subst s0
        refine go_step (F1 := (15, [some (.ref 0), some (.int x1), some (.int x2), some (.ref 66), none], [])) (M1 := (H5, (false, z.2.1 + 1, z.2.2 + 6))) (fun _ => ev_callVC (x := (.invokevirtual 130, 3, 140, 10, 1192, .null)) (as := [.int x1, .int x2]) (rest := [.int (0 : Int32), .ref 66]) rfl rfl u_0 rfl rfl hCH5 rfl) ?_
        refine go_step (fun _ => ev_run 1 (F' := (16, [some (.ref 0), some (.int x1), some (.int x2), some (.ref 66), none], [.int (1 : Int32)])) rfl) ?_
        cases h
        exact Or.inr ⟨_, ev_ret rfl rfl rfl rfl, H5, rfl, eH5_35, eH5_36, eH5_37, eH5_38, ((fH5 66 rfl).trans u_66), (xfr_t xfr_refl rfl fH5)⟩
      · have h := (if_neg s0).symm.trans h
        cases h
    · skip
      obtain ⟨H6, hCH6, eH6_35, eH6_36, eH6_37, eH6_38, fH6⟩ := C_X11_chunks (S := S) (d := d) (z := z) (x1 := x1) (x2 := x2) u_0 u_35 u_36 u_1 u_37 u_2 u_38 hy4
      refine go_step (F1 := (8, [some (.ref 0), some (.int x1), some (.int x2), some (.ref 66), none], [.int v3, .int (0 : Int32), .ref 66])) (M1 := (H6, z)) (fun _ => ev_callV (x := (.invokevirtual 130, 3, 140, 10, 1192, .null)) (as := [.int x1, .int x2]) (rest := [.int (0 : Int32), .ref 66]) rfl rfl u_0 hCH6 rfl) ?_
      refine go_step (fun _ => ev_run 1 (F' := (9, [some (.ref 0), some (.int x1), some (.int x2), some (.ref 66), none], [.long (v3.toInt64), .int (0 : Int32), .ref 66])) rfl) ?_
      refine go_last rfl ((fH6 66 rfl).trans u_66) rfl (fun H7 (eH7 : H7[66]? = some (.inl (1, 1, .inr (.inl (vp_updL a66 (0 : Int32).toNatClampNeg (v3.toInt64)))))) fH7 => ?_)
      refine go_step (fun _ => ev_run 2 (F' := (18, [some (.ref 0), some (.int x1), some (.int x2), some (.ref 66), none], [.int (0 : Int32)])) rfl) ?_
      cases h
      exact Or.inr ⟨_, ev_ret rfl rfl rfl rfl, H7, rfl, ((fH7 35 rfl).trans eH6_35), ((fH7 36 rfl).trans eH6_36), ((fH7 37 rfl).trans eH6_37), ((fH7 38 rfl).trans eH6_38), eH7, (xfr_t (xfr_t xfr_refl rfl fH6) rfl fH7)⟩
  obtain ⟨_, hE, H', rfl, hrest⟩ := go_end G
  exact ⟨H', hE, hrest⟩
def q_L_chunkEnd (x1 : Int32) (x2 : Int32) (x3 : Int32) (c35_3 : Int32) (c36_1 : Int32) (c1_1 : Int32) (a37 : Nat → Int32) (a2 : Nat → Int32) (a38 : Nat → Int32) (a66 : Nat → Int64) : Option (Int32 × Bool × Int32 × Int32 × (Nat → Int32) × (Nat → Int32) × (Nat → Int64)) := (xbnd (q_X11_chunkEnd x1 x2 x3 c35_3 c36_1 c1_1 a37 a2 a38) (fun e2 y1 => (if e2 = 0 then (some ((1 : Int32), true, y1.1, y1.2.1, y1.2.2.1, y1.2.2.2, a66)) else if e2 = 2 then (some ((2 : Int32), true, y1.1, y1.2.1, y1.2.2.1, y1.2.2.2, a66)) else none)) (fun v3 y4 => (some ((0 : Int32), false, y4.1, y4.2.1, y4.2.2.1, y4.2.2.2, (vp_updL a66 (0 : Int32).toNatClampNeg (v3.toInt64))))))
theorem C_L_chunkEnd {S : Nat × (Nat → Int32)} {d : Nat} {H : List xE} {z : Bool × Nat × Nat} {c35_3 : Int32} {c36_1 : Int32} {c1_1 : Int32} {a37 : Nat → Int32} {a2 : Nat → Int32} {a38 : Nat → Int32} {a66 : Nat → Int64} {x1 : Int32} {x2 : Int32} {x3 : Int32} (u_35 : H[35]? = some (.inr (0, [.ref 36, .ref 38, .ref 39, .int c35_3]))) (u_36 : H[36]? = some (.inr (4, [.ref 37, .int c36_1]))) (u_1 : H[1]? = some (.inr (4, [.ref 2, .int c1_1]))) (u_37 : H[37]? = some (.inl (0, 65, .inl a37))) (u_2 : H[2]? = some (.inl (0, 64, .inl a2))) (u_38 : H[38]? = some (.inl (0, 65, .inl a38))) (u_0 : H[0]? = some (oO)) (u_66 : H[66]? = some (.inl (1, 1, .inr (.inl a66)))) {x : (Int32 × Bool × Int32 × Int32 × (Nat → Int32) × (Nat → Int32) × (Nat → Int64))} (h : q_L_chunkEnd x1 x2 x3 c35_3 c36_1 c1_1 a37 a2 a38 a66 = some x) : ∃ H' : List xE, Cm S (d + 5) 299 [.ref 0, .int x1, .int x2, .int x3, .ref 66] (H, z) (.inr (some (.int x.1)), (H', zX x.2.1 z)) ∧ H'[35]? = some (.inr (0, [.ref 36, .ref 38, .ref 39, .int x.2.2.1])) ∧ H'[36]? = some (.inr (4, [.ref 37, .int x.2.2.2.1])) ∧ H'[37]? = some (.inl (0, 65, .inl x.2.2.2.2.1)) ∧ H'[38]? = some (.inl (0, 65, .inl x.2.2.2.2.2.1)) ∧ H'[66]? = some (.inl (1, 1, .inr (.inl x.2.2.2.2.2.2))) ∧ xfr [35, 36, 37, 38, 66] H H' := by
  have G : Go S (d + 5) 299 (0, [some (.ref 0), some (.int x1), some (.int x2), some (.int x3), some (.ref 66), none], []) (H, z) (fun _ _ => False) (fun r => ∃ H' : List xE, r = (.inr (some (.int x.1)), (H', zX x.2.1 z)) ∧ H'[35]? = some (.inr (0, [.ref 36, .ref 38, .ref 39, .int x.2.2.1])) ∧ H'[36]? = some (.inr (4, [.ref 37, .int x.2.2.2.1])) ∧ H'[37]? = some (.inl (0, 65, .inl x.2.2.2.2.1)) ∧ H'[38]? = some (.inl (0, 65, .inl x.2.2.2.2.2.1)) ∧ H'[66]? = some (.inl (1, 1, .inr (.inl x.2.2.2.2.2.2))) ∧ xfr [35, 36, 37, 38, 66] H H') := by
    unfold q_L_chunkEnd at h
    refine go_step (fun _ => ev_run 6 (F' := (7, [some (.ref 0), some (.int x1), some (.int x2), some (.int x3), some (.ref 66), none], [.int x3, .int x2, .int x1, .ref 0, .int (0 : Int32), .ref 66])) rfl) ?_
    rcases okx h with ⟨e2, y1, hy1, h⟩ | ⟨v3, y4, hy4, h⟩
    · skip
      obtain ⟨H5, hCH5, eH5_35, eH5_36, eH5_37, eH5_38, fH5⟩ := C_X11_chunkEnd (S := S) (d := d) (z := z) (x1 := x1) (x2 := x2) (x3 := x3) u_0 u_35 u_36 u_1 u_37 u_2 u_38 hy1
      by_cases s0 : e2 = 0
      · have h := (if_pos s0).symm.trans h
        subst s0
        refine go_step (F1 := (17, [some (.ref 0), some (.int x1), some (.int x2), some (.int x3), some (.ref 66), none], [])) (M1 := (H5, (false, z.2.1 + 1, z.2.2 + 6))) (fun _ => ev_callVC (x := (.invokevirtual 133, 3, 141, 10, 1218, .null)) (as := [.int x1, .int x2, .int x3]) (rest := [.int (0 : Int32), .ref 66]) rfl rfl u_0 rfl rfl hCH5 rfl) ?_
        refine go_step (fun _ => ev_run 1 (F' := (18, [some (.ref 0), some (.int x1), some (.int x2), some (.int x3), some (.ref 66), none], [.int (1 : Int32)])) rfl) ?_
        cases h
        exact Or.inr ⟨_, ev_ret rfl rfl rfl rfl, H5, rfl, eH5_35, eH5_36, eH5_37, eH5_38, ((fH5 66 rfl).trans u_66), (xfr_t xfr_refl rfl fH5)⟩
      · have h := (if_neg s0).symm.trans h
        by_cases s2 : e2 = 2
        · have h := (if_pos s2).symm.trans h
          subst s2
          refine go_step (F1 := (21, [some (.ref 0), some (.int x1), some (.int x2), some (.int x3), some (.ref 66), none], [])) (M1 := (H5, (false, z.2.1 + 1, z.2.2 + 6))) (fun _ => ev_callVC (x := (.invokevirtual 133, 3, 141, 10, 1218, .null)) (as := [.int x1, .int x2, .int x3]) (rest := [.int (0 : Int32), .ref 66]) rfl rfl u_0 rfl rfl hCH5 rfl) ?_
          refine go_step (fun _ => ev_run 1 (F' := (22, [some (.ref 0), some (.int x1), some (.int x2), some (.int x3), some (.ref 66), none], [.int (2 : Int32)])) rfl) ?_
          cases h
          exact Or.inr ⟨_, ev_ret rfl rfl rfl rfl, H5, rfl, eH5_35, eH5_36, eH5_37, eH5_38, ((fH5 66 rfl).trans u_66), (xfr_t xfr_refl rfl fH5)⟩
        · have h := (if_neg s2).symm.trans h
          cases h
    · skip
      obtain ⟨H6, hCH6, eH6_35, eH6_36, eH6_37, eH6_38, fH6⟩ := C_X11_chunkEnd (S := S) (d := d) (z := z) (x1 := x1) (x2 := x2) (x3 := x3) u_0 u_35 u_36 u_1 u_37 u_2 u_38 hy4
      refine go_step (F1 := (10, [some (.ref 0), some (.int x1), some (.int x2), some (.int x3), some (.ref 66), none], [.int v3, .int (0 : Int32), .ref 66])) (M1 := (H6, z)) (fun _ => ev_callV (x := (.invokevirtual 133, 3, 141, 10, 1218, .null)) (as := [.int x1, .int x2, .int x3]) (rest := [.int (0 : Int32), .ref 66]) rfl rfl u_0 hCH6 rfl) ?_
      refine go_step (fun _ => ev_run 1 (F' := (11, [some (.ref 0), some (.int x1), some (.int x2), some (.int x3), some (.ref 66), none], [.long (v3.toInt64), .int (0 : Int32), .ref 66])) rfl) ?_
      refine go_last rfl ((fH6 66 rfl).trans u_66) rfl (fun H7 (eH7 : H7[66]? = some (.inl (1, 1, .inr (.inl (vp_updL a66 (0 : Int32).toNatClampNeg (v3.toInt64)))))) fH7 => ?_)
      refine go_step (fun _ => ev_run 2 (F' := (24, [some (.ref 0), some (.int x1), some (.int x2), some (.int x3), some (.ref 66), none], [.int (0 : Int32)])) rfl) ?_
      cases h
      exact Or.inr ⟨_, ev_ret rfl rfl rfl rfl, H7, rfl, ((fH7 35 rfl).trans eH6_35), ((fH7 36 rfl).trans eH6_36), ((fH7 37 rfl).trans eH6_37), ((fH7 38 rfl).trans eH6_38), eH7, (xfr_t (xfr_t xfr_refl rfl fH6) rfl fH7)⟩
  obtain ⟨_, hE, H', rfl, hrest⟩ := go_end G
  exact ⟨H', hE, hrest⟩
def q_L_stays (x1 : Int32) (x2 : Int32) (x3 : Int32) (x4 : Int32) (c1_1 : Int32) (c33_1 : Int32) (a34 : Nat → Int32) (a2 : Nat → Int32) (c35_3 : Int32) (c36_1 : Int32) (a37 : Nat → Int32) (a38 : Nat → Int32) (c40_3 : Int32) (c41_1 : Int32) (a42 : Nat → Int32) (a43 : Nat → Int32) (a44 : Nat → Int32) (a66 : Nat → Int64) : Option (Int32 × Bool × Int32 × (Nat → Int32) × Int32 × Int32 × (Nat → Int32) × (Nat → Int32) × Int32 × Int32 × (Nat → Int32) × (Nat → Int32) × (Nat → Int32) × (Nat → Int64)) := (xbnd (q_X11_stays x1 x2 x3 x4 c1_1 c33_1 a34 a2 c35_3 c36_1 a37 a38 c40_3 c41_1 a42 a43 a44) (fun e2 y1 => (if e2 = 0 then (some ((1 : Int32), true, y1.1, y1.2.1, y1.2.2.1, y1.2.2.2.1, y1.2.2.2.2.1, y1.2.2.2.2.2.1, y1.2.2.2.2.2.2.1, y1.2.2.2.2.2.2.2.1, y1.2.2.2.2.2.2.2.2.1, y1.2.2.2.2.2.2.2.2.2.1, y1.2.2.2.2.2.2.2.2.2.2, a66)) else if e2 = 2 then (some ((2 : Int32), true, y1.1, y1.2.1, y1.2.2.1, y1.2.2.2.1, y1.2.2.2.2.1, y1.2.2.2.2.2.1, y1.2.2.2.2.2.2.1, y1.2.2.2.2.2.2.2.1, y1.2.2.2.2.2.2.2.2.1, y1.2.2.2.2.2.2.2.2.2.1, y1.2.2.2.2.2.2.2.2.2.2, a66)) else none)) (fun v3 y4 => (some ((0 : Int32), false, y4.1, y4.2.1, y4.2.2.1, y4.2.2.2.1, y4.2.2.2.2.1, y4.2.2.2.2.2.1, y4.2.2.2.2.2.2.1, y4.2.2.2.2.2.2.2.1, y4.2.2.2.2.2.2.2.2.1, y4.2.2.2.2.2.2.2.2.2.1, y4.2.2.2.2.2.2.2.2.2.2, (vp_updL a66 (0 : Int32).toNatClampNeg (v3.toInt64))))))
theorem C_L_stays {S : Nat × (Nat → Int32)} {d : Nat} {H : List xE} {z : Bool × Nat × Nat} {c1_1 : Int32} {c33_1 : Int32} {a34 : Nat → Int32} {a2 : Nat → Int32} {c35_3 : Int32} {c36_1 : Int32} {a37 : Nat → Int32} {a38 : Nat → Int32} {c40_3 : Int32} {c41_1 : Int32} {a42 : Nat → Int32} {a43 : Nat → Int32} {a44 : Nat → Int32} {a66 : Nat → Int64} {x1 : Int32} {x2 : Int32} {x3 : Int32} {x4 : Int32} (u_1 : H[1]? = some (.inr (4, [.ref 2, .int c1_1]))) (u_33 : H[33]? = some (.inr (4, [.ref 34, .int c33_1]))) (u_34 : H[34]? = some (.inl (0, 65, .inl a34))) (u_2 : H[2]? = some (.inl (0, 64, .inl a2))) (u_35 : H[35]? = some (.inr (0, [.ref 36, .ref 38, .ref 39, .int c35_3]))) (u_36 : H[36]? = some (.inr (4, [.ref 37, .int c36_1]))) (u_37 : H[37]? = some (.inl (0, 65, .inl a37))) (u_38 : H[38]? = some (.inl (0, 65, .inl a38))) (u_40 : H[40]? = some (.inr (0, [.ref 41, .ref 43, .ref 44, .int c40_3]))) (u_41 : H[41]? = some (.inr (4, [.ref 42, .int c41_1]))) (u_42 : H[42]? = some (.inl (0, 65, .inl a42))) (u_43 : H[43]? = some (.inl (0, 65, .inl a43))) (u_44 : H[44]? = some (.inl (2, 65, .inl a44))) (u_0 : H[0]? = some (oO)) (u_66 : H[66]? = some (.inl (1, 1, .inr (.inl a66)))) {x : (Int32 × Bool × Int32 × (Nat → Int32) × Int32 × Int32 × (Nat → Int32) × (Nat → Int32) × Int32 × Int32 × (Nat → Int32) × (Nat → Int32) × (Nat → Int32) × (Nat → Int64))} (h : q_L_stays x1 x2 x3 x4 c1_1 c33_1 a34 a2 c35_3 c36_1 a37 a38 c40_3 c41_1 a42 a43 a44 a66 = some x) : ∃ H' : List xE, Cm S (d + 5) 300 [.ref 0, .int x1, .int x2, .int x3, .int x4, .ref 66] (H, z) (.inr (some (.int x.1)), (H', zX x.2.1 z)) ∧ H'[33]? = some (.inr (4, [.ref 34, .int x.2.2.1])) ∧ H'[34]? = some (.inl (0, 65, .inl x.2.2.2.1)) ∧ H'[35]? = some (.inr (0, [.ref 36, .ref 38, .ref 39, .int x.2.2.2.2.1])) ∧ H'[36]? = some (.inr (4, [.ref 37, .int x.2.2.2.2.2.1])) ∧ H'[37]? = some (.inl (0, 65, .inl x.2.2.2.2.2.2.1)) ∧ H'[38]? = some (.inl (0, 65, .inl x.2.2.2.2.2.2.2.1)) ∧ H'[40]? = some (.inr (0, [.ref 41, .ref 43, .ref 44, .int x.2.2.2.2.2.2.2.2.1])) ∧ H'[41]? = some (.inr (4, [.ref 42, .int x.2.2.2.2.2.2.2.2.2.1])) ∧ H'[42]? = some (.inl (0, 65, .inl x.2.2.2.2.2.2.2.2.2.2.1)) ∧ H'[43]? = some (.inl (0, 65, .inl x.2.2.2.2.2.2.2.2.2.2.2.1)) ∧ H'[44]? = some (.inl (2, 65, .inl x.2.2.2.2.2.2.2.2.2.2.2.2.1)) ∧ H'[66]? = some (.inl (1, 1, .inr (.inl x.2.2.2.2.2.2.2.2.2.2.2.2.2))) ∧ xfr [33, 34, 35, 36, 37, 38, 40, 41, 42, 43, 44, 66] H H' := by
  have G : Go S (d + 5) 300 (0, [some (.ref 0), some (.int x1), some (.int x2), some (.int x3), some (.int x4), some (.ref 66), none], []) (H, z) (fun _ _ => False) (fun r => ∃ H' : List xE, r = (.inr (some (.int x.1)), (H', zX x.2.1 z)) ∧ H'[33]? = some (.inr (4, [.ref 34, .int x.2.2.1])) ∧ H'[34]? = some (.inl (0, 65, .inl x.2.2.2.1)) ∧ H'[35]? = some (.inr (0, [.ref 36, .ref 38, .ref 39, .int x.2.2.2.2.1])) ∧ H'[36]? = some (.inr (4, [.ref 37, .int x.2.2.2.2.2.1])) ∧ H'[37]? = some (.inl (0, 65, .inl x.2.2.2.2.2.2.1)) ∧ H'[38]? = some (.inl (0, 65, .inl x.2.2.2.2.2.2.2.1)) ∧ H'[40]? = some (.inr (0, [.ref 41, .ref 43, .ref 44, .int x.2.2.2.2.2.2.2.2.1])) ∧ H'[41]? = some (.inr (4, [.ref 42, .int x.2.2.2.2.2.2.2.2.2.1])) ∧ H'[42]? = some (.inl (0, 65, .inl x.2.2.2.2.2.2.2.2.2.2.1)) ∧ H'[43]? = some (.inl (0, 65, .inl x.2.2.2.2.2.2.2.2.2.2.2.1)) ∧ H'[44]? = some (.inl (2, 65, .inl x.2.2.2.2.2.2.2.2.2.2.2.2.1)) ∧ H'[66]? = some (.inl (1, 1, .inr (.inl x.2.2.2.2.2.2.2.2.2.2.2.2.2))) ∧ xfr [33, 34, 35, 36, 37, 38, 40, 41, 42, 43, 44, 66] H H') := by
    unfold q_L_stays at h
    refine go_step (fun _ => ev_run 7 (F' := (9, [some (.ref 0), some (.int x1), some (.int x2), some (.int x3), some (.int x4), some (.ref 66), none], [.int x4, .int x3, .int x2, .int x1, .ref 0, .int (0 : Int32), .ref 66])) rfl) ?_
    rcases okx h with ⟨e2, y1, hy1, h⟩ | ⟨v3, y4, hy4, h⟩
    · skip
      obtain ⟨H5, hCH5, eH5_33, eH5_34, eH5_35, eH5_36, eH5_37, eH5_38, eH5_40, eH5_41, eH5_42, eH5_43, eH5_44, fH5⟩ := C_X11_stays (S := S) (d := d) (z := z) (x1 := x1) (x2 := x2) (x3 := x3) (x4 := x4) u_1 u_0 u_33 u_34 u_2 u_35 u_36 u_37 u_38 u_40 u_41 u_42 u_43 u_44 hy1
      by_cases s0 : e2 = 0
      · have h := (if_pos s0).symm.trans h
        subst s0
        refine go_step (F1 := (19, [some (.ref 0), some (.int x1), some (.int x2), some (.int x3), some (.int x4), some (.ref 66), none], [])) (M1 := (H5, (false, z.2.1 + 1, z.2.2 + 6))) (fun _ => ev_callVC (x := (.invokevirtual 136, 3, 142, 10, 1230, .null)) (as := [.int x1, .int x2, .int x3, .int x4]) (rest := [.int (0 : Int32), .ref 66]) rfl rfl u_0 rfl rfl hCH5 rfl) ?_
        refine go_step (fun _ => ev_run 1 (F' := (20, [some (.ref 0), some (.int x1), some (.int x2), some (.int x3), some (.int x4), some (.ref 66), none], [.int (1 : Int32)])) rfl) ?_
        cases h
        exact Or.inr ⟨_, ev_ret rfl rfl rfl rfl, H5, rfl, eH5_33, eH5_34, eH5_35, eH5_36, eH5_37, eH5_38, eH5_40, eH5_41, eH5_42, eH5_43, eH5_44, ((fH5 66 rfl).trans u_66), (xfr_t xfr_refl rfl fH5)⟩
      · have h := (if_neg s0).symm.trans h
        by_cases s2 : e2 = 2
        · have h := (if_pos s2).symm.trans h
          subst s2
          refine go_step (F1 := (23, [some (.ref 0), some (.int x1), some (.int x2), some (.int x3), some (.int x4), some (.ref 66), none], [])) (M1 := (H5, (false, z.2.1 + 1, z.2.2 + 6))) (fun _ => ev_callVC (x := (.invokevirtual 136, 3, 142, 10, 1230, .null)) (as := [.int x1, .int x2, .int x3, .int x4]) (rest := [.int (0 : Int32), .ref 66]) rfl rfl u_0 rfl rfl hCH5 rfl) ?_
          refine go_step (fun _ => ev_run 1 (F' := (24, [some (.ref 0), some (.int x1), some (.int x2), some (.int x3), some (.int x4), some (.ref 66), none], [.int (2 : Int32)])) rfl) ?_
          cases h
          exact Or.inr ⟨_, ev_ret rfl rfl rfl rfl, H5, rfl, eH5_33, eH5_34, eH5_35, eH5_36, eH5_37, eH5_38, eH5_40, eH5_41, eH5_42, eH5_43, eH5_44, ((fH5 66 rfl).trans u_66), (xfr_t xfr_refl rfl fH5)⟩
        · have h := (if_neg s2).symm.trans h
          cases h
    · skip
      obtain ⟨H6, hCH6, eH6_33, eH6_34, eH6_35, eH6_36, eH6_37, eH6_38, eH6_40, eH6_41, eH6_42, eH6_43, eH6_44, fH6⟩ := C_X11_stays (S := S) (d := d) (z := z) (x1 := x1) (x2 := x2) (x3 := x3) (x4 := x4) u_1 u_0 u_33 u_34 u_2 u_35 u_36 u_37 u_38 u_40 u_41 u_42 u_43 u_44 hy4
      refine go_step (F1 := (12, [some (.ref 0), some (.int x1), some (.int x2), some (.int x3), some (.int x4), some (.ref 66), none], [.int v3, .int (0 : Int32), .ref 66])) (M1 := (H6, z)) (fun _ => ev_callV (x := (.invokevirtual 136, 3, 142, 10, 1230, .null)) (as := [.int x1, .int x2, .int x3, .int x4]) (rest := [.int (0 : Int32), .ref 66]) rfl rfl u_0 hCH6 rfl) ?_
      refine go_step (fun _ => ev_run 1 (F' := (13, [some (.ref 0), some (.int x1), some (.int x2), some (.int x3), some (.int x4), some (.ref 66), none], [.long (v3.toInt64), .int (0 : Int32), .ref 66])) rfl) ?_
      refine go_last rfl ((fH6 66 rfl).trans u_66) rfl (fun H7 (eH7 : H7[66]? = some (.inl (1, 1, .inr (.inl (vp_updL a66 (0 : Int32).toNatClampNeg (v3.toInt64)))))) fH7 => ?_)
      refine go_step (fun _ => ev_run 2 (F' := (26, [some (.ref 0), some (.int x1), some (.int x2), some (.int x3), some (.int x4), some (.ref 66), none], [.int (0 : Int32)])) rfl) ?_
      cases h
      exact Or.inr ⟨_, ev_ret rfl rfl rfl rfl, H7, rfl, ((fH7 33 rfl).trans eH6_33), ((fH7 34 rfl).trans eH6_34), ((fH7 35 rfl).trans eH6_35), ((fH7 36 rfl).trans eH6_36), ((fH7 37 rfl).trans eH6_37), ((fH7 38 rfl).trans eH6_38), ((fH7 40 rfl).trans eH6_40), ((fH7 41 rfl).trans eH6_41), ((fH7 42 rfl).trans eH6_42), ((fH7 43 rfl).trans eH6_43), ((fH7 44 rfl).trans eH6_44), eH7, (xfr_t (xfr_t xfr_refl rfl fH6) rfl fH7)⟩
  obtain ⟨_, hE, H', rfl, hrest⟩ := go_end G
  exact ⟨H', hE, hrest⟩
def q_L_root (c1_1 : Int32) (a2 : Nat → Int32) (a46 : Nat → Int64) (a47 : Nat → Int32) (c45_2 : Int32) (a66 : Nat → Int64) : Option (Int32 × Bool × (Nat → Int64) × (Nat → Int32) × Int32 × (Nat → Int64)) := (xbnd (q_X11_root c1_1 a2 a46 a47 c45_2) (fun e2 y1 => (if e2 = 3 then (some ((1 : Int32), true, y1.1, y1.2.1, y1.2.2, a66)) else none)) (fun v3 y4 => (some ((0 : Int32), false, y4.1, y4.2.1, y4.2.2, (vp_updL a66 (0 : Int32).toNatClampNeg v3)))))
theorem C_L_root {S : Nat × (Nat → Int32)} {d : Nat} {H : List xE} {z : Bool × Nat × Nat} {c1_1 : Int32} {a2 : Nat → Int32} {a46 : Nat → Int64} {a47 : Nat → Int32} {c45_2 : Int32} {a66 : Nat → Int64} (u_1 : H[1]? = some (.inr (4, [.ref 2, .int c1_1]))) (u_2 : H[2]? = some (.inl (0, 64, .inl a2))) (u_46 : H[46]? = some (.inl (1, 80, .inr (.inl a46)))) (u_47 : H[47]? = some (.inl (0, 5, .inl a47))) (u_45 : H[45]? = some (.inr (8, [.ref 46, .ref 47, .int c45_2]))) (u_0 : H[0]? = some (oO)) (u_66 : H[66]? = some (.inl (1, 1, .inr (.inl a66)))) {x : (Int32 × Bool × (Nat → Int64) × (Nat → Int32) × Int32 × (Nat → Int64))} (h : q_L_root c1_1 a2 a46 a47 c45_2 a66 = some x) : ∃ H' : List xE, Cm S (d + 6) 301 [.ref 0, .ref 66] (H, z) (.inr (some (.int x.1)), (H', zX x.2.1 z)) ∧ H'[46]? = some (.inl (1, 80, .inr (.inl x.2.2.1))) ∧ H'[47]? = some (.inl (0, 5, .inl x.2.2.2.1)) ∧ H'[45]? = some (.inr (8, [.ref 46, .ref 47, .int x.2.2.2.2.1])) ∧ H'[66]? = some (.inl (1, 1, .inr (.inl x.2.2.2.2.2))) ∧ xfr [46, 47, 45, 66] H H' := by
  have G : Go S (d + 6) 301 (0, [some (.ref 0), some (.ref 66), none], []) (H, z) (fun _ _ => False) (fun r => ∃ H' : List xE, r = (.inr (some (.int x.1)), (H', zX x.2.1 z)) ∧ H'[46]? = some (.inl (1, 80, .inr (.inl x.2.2.1))) ∧ H'[47]? = some (.inl (0, 5, .inl x.2.2.2.1)) ∧ H'[45]? = some (.inr (8, [.ref 46, .ref 47, .int x.2.2.2.2.1])) ∧ H'[66]? = some (.inl (1, 1, .inr (.inl x.2.2.2.2.2))) ∧ xfr [46, 47, 45, 66] H H') := by
    unfold q_L_root at h
    refine go_step (fun _ => ev_run 3 (F' := (3, [some (.ref 0), some (.ref 66), none], [.ref 0, .int (0 : Int32), .ref 66])) rfl) ?_
    rcases okx h with ⟨e2, y1, hy1, h⟩ | ⟨v3, y4, hy4, h⟩
    · skip
      obtain ⟨H5, hCH5, eH5_46, eH5_47, eH5_45, fH5⟩ := C_X11_root (S := S) (d := d) (z := z) u_0 u_1 u_2 u_46 u_47 u_45 hy1
      by_cases s3 : e2 = 3
      · have h := (if_pos s3).symm.trans h
        subst s3
        refine go_step (F1 := (11, [some (.ref 0), some (.ref 66), none], [])) (M1 := (H5, (false, z.2.1 + 1, z.2.2 + 6))) (fun _ => ev_callVC (x := (.invokevirtual 139, 3, 143, 10, 1255, .null)) (as := []) (rest := [.int (0 : Int32), .ref 66]) rfl rfl u_0 rfl rfl hCH5 rfl) ?_
        refine go_step (fun _ => ev_run 1 (F' := (12, [some (.ref 0), some (.ref 66), none], [.int (1 : Int32)])) rfl) ?_
        cases h
        exact Or.inr ⟨_, ev_ret rfl rfl rfl rfl, H5, rfl, eH5_46, eH5_47, eH5_45, ((fH5 66 rfl).trans u_66), (xfr_t xfr_refl rfl fH5)⟩
      · have h := (if_neg s3).symm.trans h
        cases h
    · skip
      obtain ⟨H6, hCH6, eH6_46, eH6_47, eH6_45, fH6⟩ := C_X11_root (S := S) (d := d) (z := z) u_0 u_1 u_2 u_46 u_47 u_45 hy4
      refine go_step (F1 := (6, [some (.ref 0), some (.ref 66), none], [.long v3, .int (0 : Int32), .ref 66])) (M1 := (H6, z)) (fun _ => ev_callV (x := (.invokevirtual 139, 3, 143, 10, 1255, .null)) (as := []) (rest := [.int (0 : Int32), .ref 66]) rfl rfl u_0 hCH6 rfl) ?_
      refine go_last rfl ((fH6 66 rfl).trans u_66) rfl (fun H7 (eH7 : H7[66]? = some (.inl (1, 1, .inr (.inl (vp_updL a66 (0 : Int32).toNatClampNeg v3))))) fH7 => ?_)
      refine go_step (fun _ => ev_run 2 (F' := (14, [some (.ref 0), some (.ref 66), none], [.int (0 : Int32)])) rfl) ?_
      cases h
      exact Or.inr ⟨_, ev_ret rfl rfl rfl rfl, H7, rfl, ((fH7 46 rfl).trans eH6_46), ((fH7 47 rfl).trans eH6_47), ((fH7 45 rfl).trans eH6_45), eH7, (xfr_t (xfr_t xfr_refl rfl fH6) rfl fH7)⟩
  obtain ⟨_, hE, H', rfl, hrest⟩ := go_end G
  exact ⟨H', hE, hrest⟩
def q_L_beside (x1 : Int32) (x2 : Int32) (c1_1 : Int32) (a2 : Nat → Int32) (a46 : Nat → Int64) (a47 : Nat → Int32) (c45_2 : Int32) (a66 : Nat → Int64) : Option (Int32 × Bool × (Nat → Int64) × (Nat → Int32) × Int32 × (Nat → Int64)) := (xbnd (q_X11_beside x1 x2 c1_1 a2 a46 a47 c45_2) (fun e2 y1 => (if e2 = 2 then (some ((1 : Int32), true, y1.1, y1.2.1, y1.2.2, a66)) else if e2 = 3 then (some ((2 : Int32), true, y1.1, y1.2.1, y1.2.2, a66)) else none)) (fun v3 y4 => (some ((0 : Int32), false, y4.1, y4.2.1, y4.2.2, (vp_updL a66 (0 : Int32).toNatClampNeg v3)))))
theorem C_L_beside {S : Nat × (Nat → Int32)} {d : Nat} {H : List xE} {z : Bool × Nat × Nat} {c1_1 : Int32} {a2 : Nat → Int32} {a46 : Nat → Int64} {a47 : Nat → Int32} {c45_2 : Int32} {a66 : Nat → Int64} {x1 : Int32} {x2 : Int32} (u_1 : H[1]? = some (.inr (4, [.ref 2, .int c1_1]))) (u_2 : H[2]? = some (.inl (0, 64, .inl a2))) (u_46 : H[46]? = some (.inl (1, 80, .inr (.inl a46)))) (u_47 : H[47]? = some (.inl (0, 5, .inl a47))) (u_45 : H[45]? = some (.inr (8, [.ref 46, .ref 47, .int c45_2]))) (u_0 : H[0]? = some (oO)) (u_66 : H[66]? = some (.inl (1, 1, .inr (.inl a66)))) {x : (Int32 × Bool × (Nat → Int64) × (Nat → Int32) × Int32 × (Nat → Int64))} (h : q_L_beside x1 x2 c1_1 a2 a46 a47 c45_2 a66 = some x) : ∃ H' : List xE, Cm S (d + 6) 302 [.ref 0, .int x1, .int x2, .ref 66] (H, z) (.inr (some (.int x.1)), (H', zX x.2.1 z)) ∧ H'[46]? = some (.inl (1, 80, .inr (.inl x.2.2.1))) ∧ H'[47]? = some (.inl (0, 5, .inl x.2.2.2.1)) ∧ H'[45]? = some (.inr (8, [.ref 46, .ref 47, .int x.2.2.2.2.1])) ∧ H'[66]? = some (.inl (1, 1, .inr (.inl x.2.2.2.2.2))) ∧ xfr [46, 47, 45, 66] H H' := by
  have G : Go S (d + 6) 302 (0, [some (.ref 0), some (.int x1), some (.int x2), some (.ref 66), none], []) (H, z) (fun _ _ => False) (fun r => ∃ H' : List xE, r = (.inr (some (.int x.1)), (H', zX x.2.1 z)) ∧ H'[46]? = some (.inl (1, 80, .inr (.inl x.2.2.1))) ∧ H'[47]? = some (.inl (0, 5, .inl x.2.2.2.1)) ∧ H'[45]? = some (.inr (8, [.ref 46, .ref 47, .int x.2.2.2.2.1])) ∧ H'[66]? = some (.inl (1, 1, .inr (.inl x.2.2.2.2.2))) ∧ xfr [46, 47, 45, 66] H H') := by
    unfold q_L_beside at h
    refine go_step (fun _ => ev_run 5 (F' := (5, [some (.ref 0), some (.int x1), some (.int x2), some (.ref 66), none], [.int x2, .int x1, .ref 0, .int (0 : Int32), .ref 66])) rfl) ?_
    rcases okx h with ⟨e2, y1, hy1, h⟩ | ⟨v3, y4, hy4, h⟩
    · skip
      obtain ⟨H5, hCH5, eH5_46, eH5_47, eH5_45, fH5⟩ := C_X11_beside (S := S) (d := d) (z := z) (x1 := x1) (x2 := x2) u_1 u_0 u_2 u_46 u_47 u_45 hy1
      by_cases s2 : e2 = 2
      · have h := (if_pos s2).symm.trans h
        subst s2
        refine go_step (F1 := (14, [some (.ref 0), some (.int x1), some (.int x2), some (.ref 66), none], [])) (M1 := (H5, (false, z.2.1 + 1, z.2.2 + 6))) (fun _ => ev_callVC (x := (.invokevirtual 143, 3, 144, 10, 1296, .null)) (as := [.int x1, .int x2]) (rest := [.int (0 : Int32), .ref 66]) rfl rfl u_0 rfl rfl hCH5 rfl) ?_
        refine go_step (fun _ => ev_run 1 (F' := (15, [some (.ref 0), some (.int x1), some (.int x2), some (.ref 66), none], [.int (1 : Int32)])) rfl) ?_
        cases h
        exact Or.inr ⟨_, ev_ret rfl rfl rfl rfl, H5, rfl, eH5_46, eH5_47, eH5_45, ((fH5 66 rfl).trans u_66), (xfr_t xfr_refl rfl fH5)⟩
      · have h := (if_neg s2).symm.trans h
        by_cases s3 : e2 = 3
        · have h := (if_pos s3).symm.trans h
          subst s3
          refine go_step (F1 := (18, [some (.ref 0), some (.int x1), some (.int x2), some (.ref 66), none], [])) (M1 := (H5, (false, z.2.1 + 1, z.2.2 + 6))) (fun _ => ev_callVC (x := (.invokevirtual 143, 3, 144, 10, 1296, .null)) (as := [.int x1, .int x2]) (rest := [.int (0 : Int32), .ref 66]) rfl rfl u_0 rfl rfl hCH5 rfl) ?_
          refine go_step (fun _ => ev_run 1 (F' := (19, [some (.ref 0), some (.int x1), some (.int x2), some (.ref 66), none], [.int (2 : Int32)])) rfl) ?_
          cases h
          exact Or.inr ⟨_, ev_ret rfl rfl rfl rfl, H5, rfl, eH5_46, eH5_47, eH5_45, ((fH5 66 rfl).trans u_66), (xfr_t xfr_refl rfl fH5)⟩
        · have h := (if_neg s3).symm.trans h
          cases h
    · skip
      obtain ⟨H6, hCH6, eH6_46, eH6_47, eH6_45, fH6⟩ := C_X11_beside (S := S) (d := d) (z := z) (x1 := x1) (x2 := x2) u_1 u_0 u_2 u_46 u_47 u_45 hy4
      refine go_step (F1 := (8, [some (.ref 0), some (.int x1), some (.int x2), some (.ref 66), none], [.long v3, .int (0 : Int32), .ref 66])) (M1 := (H6, z)) (fun _ => ev_callV (x := (.invokevirtual 143, 3, 144, 10, 1296, .null)) (as := [.int x1, .int x2]) (rest := [.int (0 : Int32), .ref 66]) rfl rfl u_0 hCH6 rfl) ?_
      refine go_last rfl ((fH6 66 rfl).trans u_66) rfl (fun H7 (eH7 : H7[66]? = some (.inl (1, 1, .inr (.inl (vp_updL a66 (0 : Int32).toNatClampNeg v3))))) fH7 => ?_)
      refine go_step (fun _ => ev_run 2 (F' := (21, [some (.ref 0), some (.int x1), some (.int x2), some (.ref 66), none], [.int (0 : Int32)])) rfl) ?_
      cases h
      exact Or.inr ⟨_, ev_ret rfl rfl rfl rfl, H7, rfl, ((fH7 46 rfl).trans eH6_46), ((fH7 47 rfl).trans eH6_47), ((fH7 45 rfl).trans eH6_45), eH7, (xfr_t (xfr_t xfr_refl rfl fH6) rfl fH7)⟩
  obtain ⟨_, hE, H', rfl, hrest⟩ := go_end G
  exact ⟨H', hE, hrest⟩
def q_L_climbed (x1 : Int32) (x2 : Int32) (c1_1 : Int32) (a2 : Nat → Int32) (a46 : Nat → Int64) (a47 : Nat → Int32) (c45_2 : Int32) (a66 : Nat → Int64) : Option (Int32 × Bool × (Nat → Int64) × (Nat → Int32) × Int32 × (Nat → Int64)) := (xbnd (q_X11_climbed x1 x2 c1_1 a2 a46 a47 c45_2) (fun e2 y1 => (if e2 = 2 then (some ((1 : Int32), true, y1.1, y1.2.1, y1.2.2, a66)) else none)) (fun v3 y4 => (some ((0 : Int32), false, y4.1, y4.2.1, y4.2.2, (vp_updL a66 (0 : Int32).toNatClampNeg v3)))))
theorem C_L_climbed {S : Nat × (Nat → Int32)} {d : Nat} {H : List xE} {z : Bool × Nat × Nat} {c1_1 : Int32} {a2 : Nat → Int32} {a46 : Nat → Int64} {a47 : Nat → Int32} {c45_2 : Int32} {a66 : Nat → Int64} {x1 : Int32} {x2 : Int32} (u_1 : H[1]? = some (.inr (4, [.ref 2, .int c1_1]))) (u_2 : H[2]? = some (.inl (0, 64, .inl a2))) (u_46 : H[46]? = some (.inl (1, 80, .inr (.inl a46)))) (u_47 : H[47]? = some (.inl (0, 5, .inl a47))) (u_45 : H[45]? = some (.inr (8, [.ref 46, .ref 47, .int c45_2]))) (u_0 : H[0]? = some (oO)) (u_66 : H[66]? = some (.inl (1, 1, .inr (.inl a66)))) {x : (Int32 × Bool × (Nat → Int64) × (Nat → Int32) × Int32 × (Nat → Int64))} (h : q_L_climbed x1 x2 c1_1 a2 a46 a47 c45_2 a66 = some x) : ∃ H' : List xE, Cm S (d + 6) 303 [.ref 0, .int x1, .int x2, .ref 66] (H, z) (.inr (some (.int x.1)), (H', zX x.2.1 z)) ∧ H'[46]? = some (.inl (1, 80, .inr (.inl x.2.2.1))) ∧ H'[47]? = some (.inl (0, 5, .inl x.2.2.2.1)) ∧ H'[45]? = some (.inr (8, [.ref 46, .ref 47, .int x.2.2.2.2.1])) ∧ H'[66]? = some (.inl (1, 1, .inr (.inl x.2.2.2.2.2))) ∧ xfr [46, 47, 45, 66] H H' := by
  have G : Go S (d + 6) 303 (0, [some (.ref 0), some (.int x1), some (.int x2), some (.ref 66), none], []) (H, z) (fun _ _ => False) (fun r => ∃ H' : List xE, r = (.inr (some (.int x.1)), (H', zX x.2.1 z)) ∧ H'[46]? = some (.inl (1, 80, .inr (.inl x.2.2.1))) ∧ H'[47]? = some (.inl (0, 5, .inl x.2.2.2.1)) ∧ H'[45]? = some (.inr (8, [.ref 46, .ref 47, .int x.2.2.2.2.1])) ∧ H'[66]? = some (.inl (1, 1, .inr (.inl x.2.2.2.2.2))) ∧ xfr [46, 47, 45, 66] H H') := by
    unfold q_L_climbed at h
    refine go_step (fun _ => ev_run 5 (F' := (5, [some (.ref 0), some (.int x1), some (.int x2), some (.ref 66), none], [.int x2, .int x1, .ref 0, .int (0 : Int32), .ref 66])) rfl) ?_
    rcases okx h with ⟨e2, y1, hy1, h⟩ | ⟨v3, y4, hy4, h⟩
    · skip
      obtain ⟨H5, hCH5, eH5_46, eH5_47, eH5_45, fH5⟩ := C_X11_climbed (S := S) (d := d) (z := z) (x1 := x1) (x2 := x2) u_1 u_0 u_2 u_46 u_47 u_45 hy1
      by_cases s2 : e2 = 2
      · have h := (if_pos s2).symm.trans h
        subst s2
        refine go_step (F1 := (14, [some (.ref 0), some (.int x1), some (.int x2), some (.ref 66), none], [])) (M1 := (H5, (false, z.2.1 + 1, z.2.2 + 6))) (fun _ => ev_callVC (x := (.invokevirtual 146, 3, 145, 10, 1319, .null)) (as := [.int x1, .int x2]) (rest := [.int (0 : Int32), .ref 66]) rfl rfl u_0 rfl rfl hCH5 rfl) ?_
        refine go_step (fun _ => ev_run 1 (F' := (15, [some (.ref 0), some (.int x1), some (.int x2), some (.ref 66), none], [.int (1 : Int32)])) rfl) ?_
        cases h
        exact Or.inr ⟨_, ev_ret rfl rfl rfl rfl, H5, rfl, eH5_46, eH5_47, eH5_45, ((fH5 66 rfl).trans u_66), (xfr_t xfr_refl rfl fH5)⟩
      · have h := (if_neg s2).symm.trans h
        cases h
    · skip
      obtain ⟨H6, hCH6, eH6_46, eH6_47, eH6_45, fH6⟩ := C_X11_climbed (S := S) (d := d) (z := z) (x1 := x1) (x2 := x2) u_1 u_0 u_2 u_46 u_47 u_45 hy4
      refine go_step (F1 := (8, [some (.ref 0), some (.int x1), some (.int x2), some (.ref 66), none], [.long v3, .int (0 : Int32), .ref 66])) (M1 := (H6, z)) (fun _ => ev_callV (x := (.invokevirtual 146, 3, 145, 10, 1319, .null)) (as := [.int x1, .int x2]) (rest := [.int (0 : Int32), .ref 66]) rfl rfl u_0 hCH6 rfl) ?_
      refine go_last rfl ((fH6 66 rfl).trans u_66) rfl (fun H7 (eH7 : H7[66]? = some (.inl (1, 1, .inr (.inl (vp_updL a66 (0 : Int32).toNatClampNeg v3))))) fH7 => ?_)
      refine go_step (fun _ => ev_run 2 (F' := (17, [some (.ref 0), some (.int x1), some (.int x2), some (.ref 66), none], [.int (0 : Int32)])) rfl) ?_
      cases h
      exact Or.inr ⟨_, ev_ret rfl rfl rfl rfl, H7, rfl, ((fH7 46 rfl).trans eH6_46), ((fH7 47 rfl).trans eH6_47), ((fH7 45 rfl).trans eH6_45), eH7, (xfr_t (xfr_t xfr_refl rfl fH6) rfl fH7)⟩
  obtain ⟨_, hE, H', rfl, hrest⟩ := go_end G
  exact ⟨H', hE, hrest⟩

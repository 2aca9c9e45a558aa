/-! Functions of the methods, and that the small machine does what they say: written by a program (wip/whole/dec). -/
def q_X11_type_L57 (x1 : Int32) (x2 : Int32) : Nat → Int32 → Int32 → (Nat → Int32) → Option (Int32 × Int32 × (Nat → Int32))
  | 0, _, _, _ => none
  | n + 1, l3, c1_1, a2 => (if x2 ≤ l3 then (some (l3, c1_1, a2)) else ((q_X5_append (t_X11_byteOfWord x1 l3) c1_1 64 a2).bind (fun y1 => (q_X11_type_L57 x1 x2 n (l3 + (1 : Int32)) y1.1 y1.2))))
def q_X11_type (x1 : Int32) (x2 : Int32) (c1_1 : Int32) (c3_1 : Int32) (c3_2 : Int32) (c4_0 : Int32) (a6 : Nat → Int32) (a5 : Nat → Int32) (a2 : Nat → Int32) : Option ((Nat ⊕ Int32) × (Int32 × Int32 × Int32 × (Nat → Int32) × (Nat → Int32) × (Nat → Int32))) := (if x2 < (1 : Int32) then (some (Sum.inl 0, (c1_1, c3_1, c3_2, a6, a5, a2))) else (if x2 ≤ (4 : Int32) then (if (t_X5_size c1_1) ≤ ((64 : Int32) - x2) then ((q_X3_keep c3_1 c3_2 c4_0 c1_1 a6 a5 a2).bind (fun y1 => ((q_X11_type_L57 x1 x2 10000 (0 : Int32) c1_1 a2).bind (fun y3 => (some (Sum.inr (t_X5_size y3.2.1), (y3.2.1, y1.1, y1.2.1, y1.2.2.1, y1.2.2.2, y3.2.2))))))) else (some (Sum.inl 1, (c1_1, c3_1, c3_2, a6, a5, a2)))) else (some (Sum.inl 0, (c1_1, c3_1, c3_2, a6, a5, a2)))))
theorem L_X11_type_L57 {S : Nat × (Nat → Int32)} {d : Nat} {z : Bool × Nat × Nat} {c3_1 : Int32} {c3_2 : Int32} {c4_0 : Int32} {a6 : Nat → Int32} {a5 : Nat → Int32} {x1 : Int32} {x2 : Int32} {H0 : List xE} (u_0 : H0[0]? = some (oO)) (u_3 : H0[3]? = some (.inr (2, [.ref 4, .int c3_1, .int c3_2]))) (u_4 : H0[4]? = some (.inr (7, [.int c4_0, .ref 5, .ref 6]))) (u_6 : H0[6]? = some (.inl (0, 10, .inl a6))) (u_5 : H0[5]? = some (.inl (0, 640, .inl a5))) : ∀ (n : Nat) (l3 : Int32) (c1_1 : Int32) (a2 : Nat → Int32) (H : List xE), xfr [1, 2] H0 H → H[1]? = some (.inr (4, [.ref 2, .int c1_1])) → H[2]? = some (.inl (0, 64, .inl a2)) → ∀ x, q_X11_type_L57 x1 x2 n l3 c1_1 a2 = some x → Go S (d + 3) 100 (57, [some (.ref 0), some (.int x1), some (.int x2), some (.int l3)], []) (H, z) (fun F' M' => ∃ H' : List xE, F' = (80, [some (.ref 0), none, none, none], []) ∧ M' = (H', z) ∧ H'[1]? = some (.inr (4, [.ref 2, .int x.2.1])) ∧ H'[2]? = some (.inl (0, 64, .inl x.2.2)) ∧ xfr [1, 2] H0 H') (fun _ => False) := by
  intro n
  induction n with
  | zero =>
    intro l3 c1_1 a2 H fr e_1 e_2 x h
    unfold q_X11_type_L57 at h
    cases h
  | succ n ih =>
    intro l3 c1_1 a2 H fr e_1 e_2 x h
    unfold q_X11_type_L57 at h
    refine go_step (fun _ => ev_run 2 (F' := (59, [some (.ref 0), some (.int x1), some (.int x2), some (.int l3)], [.int x2, .int l3])) rfl) ?_
    refine go_icmp rfl (fun (b59 : x2 ≤ l3) => ?_) (fun (b59 : ¬ (x2 ≤ l3)) => ?_)
    · have h := (if_pos b59).symm.trans h
      refine go_step (fun _ => ev_forget (L' := [some (.ref 0), none, none, none]) (show xleP _ [some (.ref 0), some (.int x1), some (.int x2), some (.int l3)] from ⟨rfl, trivial⟩) rfl) ?_
      cases h
      exact Or.inl ⟨_, _, fun r hr => hr, H, rfl, rfl, e_1, e_2, fr⟩
    · have h := (if_neg b59).symm.trans h
      refine go_step (fun _ => ev_run 1 (F' := (63, [some (.ref 0), some (.int x1), some (.int x2), some (.int l3)], [.ref 0])) rfl) ?_
      refine go_step (fun _ => ev_getf rfl ((fr 0 rfl).trans u_0) rfl) ?_
      refine go_step (fun _ => ev_run 2 (F' := (68, [some (.ref 0), some (.int x1), some (.int x2), some (.int l3)], [.int l3, .int x1, .ref 1])) rfl) ?_
      refine go_step (F1 := (71, [some (.ref 0), some (.int x1), some (.int x2), some (.int l3)], [.int (t_X11_byteOfWord x1 l3), .ref 1])) (M1 := (H, z)) (fun _ => ev_call (x := (.invokestatic 122, 3, 156, 10, 433, .null)) (as := [.int x1, .int l3]) (rest := [.ref 1]) rfl rfl (C_X11_byteOfWord (S := S) (d := d + 2) (z := z) (x0 := x1) (x1 := l3)) rfl) ?_
      obtain ⟨y1, hy1, h⟩ := okb h
      obtain ⟨H2, hCH2, eH2_1, eH2_2, fH2⟩ := C_X5_append (S := S) (d := d) (z := z) (x1 := (t_X11_byteOfWord x1 l3)) e_1 e_2 (nb rfl) (by decide) hy1
      refine go_step (F1 := (74, [some (.ref 0), some (.int x1), some (.int x2), some (.int l3)], [])) (M1 := (H2, z)) (fun _ => ev_callV (x := (.invokevirtual 126, 3, 57, 4, 436, .null)) (as := [.int (t_X11_byteOfWord x1 l3)]) (rest := []) rfl rfl e_1 hCH2 rfl) ?_
      refine go_step (fun _ => ev_run 2 (F' := (57, [some (.ref 0), some (.int x1), some (.int x2), some (.int (l3 + (1 : Int32)))], [])) rfl) ?_
      exact ih (l3 + (1 : Int32)) y1.1 y1.2 H2 (xfr_t fr rfl fH2) eH2_1 eH2_2 _ h
theorem C_X11_type {S : Nat × (Nat → Int32)} {d : Nat} {H : List xE} {z : Bool × Nat × Nat} {c1_1 : Int32} {c3_1 : Int32} {c3_2 : Int32} {c4_0 : Int32} {a6 : Nat → Int32} {a5 : Nat → Int32} {a2 : Nat → Int32} {x1 : Int32} {x2 : Int32} (u_0 : H[0]? = some (oO)) (u_1 : H[1]? = some (.inr (4, [.ref 2, .int c1_1]))) (u_3 : H[3]? = some (.inr (2, [.ref 4, .int c3_1, .int c3_2]))) (u_4 : H[4]? = some (.inr (7, [.int c4_0, .ref 5, .ref 6]))) (u_6 : H[6]? = some (.inl (0, 10, .inl a6))) (u_5 : H[5]? = some (.inl (0, 640, .inl a5))) (u_2 : H[2]? = some (.inl (0, 64, .inl a2))) {x : ((Nat ⊕ Int32) × (Int32 × Int32 × Int32 × (Nat → Int32) × (Nat → Int32) × (Nat → Int32)))} (h : q_X11_type x1 x2 c1_1 c3_1 c3_2 c4_0 a6 a5 a2 = some x) : ∃ H' : List xE, Cm S (d + 3) 100 [.ref 0, .int x1, .int x2] (H, z) (oI x.1, (H', oZ x.1 z)) ∧ H'[1]? = some (.inr (4, [.ref 2, .int x.2.1])) ∧ H'[3]? = some (.inr (2, [.ref 4, .int x.2.2.1, .int x.2.2.2.1])) ∧ H'[6]? = some (.inl (0, 10, .inl x.2.2.2.2.1)) ∧ H'[5]? = some (.inl (0, 640, .inl x.2.2.2.2.2.1)) ∧ H'[2]? = some (.inl (0, 64, .inl x.2.2.2.2.2.2)) ∧ xfr [1, 3, 6, 5, 2] H H' := by
  have G : Go S (d + 3) 100 (0, [some (.ref 0), some (.int x1), some (.int x2), none], []) (H, z) (fun _ _ => False) (fun r => ∃ H' : List xE, r = (oI x.1, (H', oZ x.1 z)) ∧ H'[1]? = some (.inr (4, [.ref 2, .int x.2.1])) ∧ H'[3]? = some (.inr (2, [.ref 4, .int x.2.2.1, .int x.2.2.2.1])) ∧ H'[6]? = some (.inl (0, 10, .inl x.2.2.2.2.1)) ∧ H'[5]? = some (.inl (0, 640, .inl x.2.2.2.2.2.1)) ∧ H'[2]? = some (.inl (0, 64, .inl x.2.2.2.2.2.2)) ∧ xfr [1, 3, 6, 5, 2] H H') := by
    unfold q_X11_type at h
    refine go_step (fun _ => ev_run 2 (F' := (2, [some (.ref 0), some (.int x1), some (.int x2), none], [.int (1 : Int32), .int x2])) rfl) ?_
    refine go_icmp rfl (fun (b2 : x2 < (1 : Int32)) => ?_) (fun (b2 : ¬ (x2 < (1 : Int32))) => ?_)
    · have h := (if_pos b2).symm.trans h
      cases h
      exact Or.inr ⟨_, ev_throw rfl rfl rfl rfl, H, rfl, u_1, u_3, u_6, u_5, u_2, xfr_refl⟩
    · have h := (if_neg b2).symm.trans h
      refine go_step (fun _ => ev_run 2 (F' := (7, [some (.ref 0), some (.int x1), some (.int x2), none], [.int (4 : Int32), .int x2])) rfl) ?_
      refine go_icmp rfl (fun (b7 : x2 ≤ (4 : Int32)) => ?_) (fun (b7 : ¬ (x2 ≤ (4 : Int32))) => ?_)
      · have h := (if_pos b7).symm.trans h
        refine go_step (fun _ => ev_run 1 (F' := (21, [some (.ref 0), some (.int x1), some (.int x2), none], [.ref 0])) rfl) ?_
        refine go_step (fun _ => ev_getf rfl u_0 rfl) ?_
        refine go_step (F1 := (27, [some (.ref 0), some (.int x1), some (.int x2), none], [.int (t_X5_size c1_1)])) (M1 := (H, z)) (fun _ => ev_callV (x := (.invokevirtual 109, 3, 53, 4, 396, .null)) (as := []) (rest := []) rfl rfl u_1 (C_X5_size (S := S) (d := d + 2) (z := z) u_1) rfl) ?_
        refine go_step (fun _ => ev_run 3 (F' := (31, [some (.ref 0), some (.int x1), some (.int x2), none], [.int ((64 : Int32) - x2), .int (t_X5_size c1_1)])) rfl) ?_
        refine go_icmp rfl (fun (b31 : (t_X5_size c1_1) ≤ ((64 : Int32) - x2)) => ?_) (fun (b31 : ¬ ((t_X5_size c1_1) ≤ ((64 : Int32) - x2))) => ?_)
        · have h := (if_pos b31).symm.trans h
          refine go_step (fun _ => ev_run 1 (F' := (45, [some (.ref 0), some (.int x1), some (.int x2), none], [.ref 0])) rfl) ?_
          refine go_step (fun _ => ev_getf rfl u_0 rfl) ?_
          refine go_step (fun _ => ev_run 1 (F' := (49, [some (.ref 0), some (.int x1), some (.int x2), none], [.ref 0, .ref 3])) rfl) ?_
          refine go_step (fun _ => ev_getf rfl u_0 rfl) ?_
          obtain ⟨y1, hy1, h⟩ := okb h
          obtain ⟨H2, hCH2, eH2_3, eH2_6, eH2_5, fH2⟩ := C_X3_keep (S := S) (d := d) (z := z) u_3 u_4 u_1 u_6 u_5 u_2 hy1
          refine go_step (F1 := (55, [some (.ref 0), some (.int x1), some (.int x2), none], [])) (M1 := (H2, z)) (fun _ => ev_callV (x := (.invokevirtual 118, 3, 37, 2, 416, .null)) (as := [.ref 1]) (rest := []) rfl rfl u_3 hCH2 rfl) ?_
          refine go_step (fun _ => ev_run 2 (F' := (57, [some (.ref 0), some (.int x1), some (.int x2), some (.int (0 : Int32))], [])) rfl) ?_
          obtain ⟨y3, hy3, h⟩ := okb h
          obtain ⟨_, _, hr5, H4, rfl, rfl, eH4_1, eH4_2, fH4⟩ := go_nr (L_X11_type_L57 (S := S) (d := d) (z := z) (x1 := x1) (x2 := x2) ((fH2 0 rfl).trans u_0) eH2_3 ((fH2 4 rfl).trans u_4) eH2_6 eH2_5 10000 (0 : Int32) c1_1 a2 H2 xfr_refl ((fH2 1 rfl).trans u_1) ((fH2 2 rfl).trans u_2) _ hy3)
          refine go_step hr5 ?_
          refine go_step (fun _ => ev_run 1 (F' := (81, [some (.ref 0), none, none, none], [.ref 0])) rfl) ?_
          refine go_step (fun _ => ev_getf rfl ((fH4 0 rfl).trans ((fH2 0 rfl).trans u_0)) rfl) ?_
          refine go_step (F1 := (87, [some (.ref 0), none, none, none], [.int (t_X5_size y3.2.1)])) (M1 := (H4, z)) (fun _ => ev_callV (x := (.invokevirtual 109, 3, 53, 4, 396, .null)) (as := []) (rest := []) rfl rfl eH4_1 (C_X5_size (S := S) (d := d + 2) (z := z) eH4_1) rfl) ?_
          cases h
          exact Or.inr ⟨_, ev_ret rfl rfl rfl rfl, H4, rfl, eH4_1, ((fH4 3 rfl).trans eH2_3), ((fH4 6 rfl).trans eH2_6), ((fH4 5 rfl).trans eH2_5), eH4_2, (xfr_t (xfr_t xfr_refl rfl fH2) rfl fH4)⟩
        · have h := (if_neg b31).symm.trans h
          cases h
          exact Or.inr ⟨_, ev_throw rfl rfl rfl rfl, H, rfl, u_1, u_3, u_6, u_5, u_2, xfr_refl⟩
      · have h := (if_neg b7).symm.trans h
        cases h
        exact Or.inr ⟨_, ev_throw rfl rfl rfl rfl, H, rfl, u_1, u_3, u_6, u_5, u_2, xfr_refl⟩
  obtain ⟨_, hE, H', rfl, hrest⟩ := go_end G
  exact ⟨H', hE, hrest⟩
def q_X11_requirePlace (x1 : Int32) (c1_1 : Int32) : Option ((Nat ⊕ Unit) × Unit) := (if ¬ (t_X5_has x1 c1_1) = (0 : Int32) then (some (Sum.inr (), ())) else (some (Sum.inl 2, ())))
theorem C_X11_requirePlace {S : Nat × (Nat → Int32)} {d : Nat} {H : List xE} {z : Bool × Nat × Nat} {c1_1 : Int32} {x1 : Int32} (u_0 : H[0]? = some (oO)) (u_1 : H[1]? = some (.inr (4, [.ref 2, .int c1_1]))) {x : ((Nat ⊕ Unit) × Unit)} (h : q_X11_requirePlace x1 c1_1 = some x) : Cm S (d + 1) 146 [.ref 0, .int x1] (H, z) (oU x.1, (H, oZ x.1 z)) := by
  have G : Go S (d + 1) 146 (0, [some (.ref 0), some (.int x1)], []) (H, z) (fun _ _ => False) (fun r => r = (oU x.1, (H, oZ x.1 z))) := by
    unfold q_X11_requirePlace at h
    refine go_step (fun _ => ev_run 1 (F' := (1, [some (.ref 0), some (.int x1)], [.ref 0])) rfl) ?_
    refine go_step (fun _ => ev_getf rfl u_0 rfl) ?_
    refine go_step (fun _ => ev_run 1 (F' := (5, [some (.ref 0), some (.int x1)], [.int x1, .ref 1])) rfl) ?_
    refine go_step (F1 := (8, [some (.ref 0), some (.int x1)], [.int (t_X5_has x1 c1_1)])) (M1 := (H, z)) (fun _ => ev_callV (x := (.invokevirtual 461, 3, 54, 4, 690, .null)) (as := [.int x1]) (rest := []) rfl rfl u_1 (C_X5_has (S := S) (d := d) (z := z) (x1 := x1) u_1) rfl) ?_
    refine go_if rfl (fun (b8 : ¬ (t_X5_has x1 c1_1) = (0 : Int32)) => ?_) (fun (b8 : ¬ (¬ (t_X5_has x1 c1_1) = (0 : Int32))) => ?_)
    · have h := (if_pos b8).symm.trans h
      cases h
      exact Or.inr ⟨_, ev_ret rfl rfl rfl rfl, rfl⟩
    · have h := (if_neg b8).symm.trans h
      cases h
      exact Or.inr ⟨_, ev_throw rfl rfl rfl rfl, rfl⟩
  obtain ⟨_, hE, rfl⟩ := go_end G
  exact hE
def q_X11_byteAt (x1 : Int32) (c1_1 : Int32) (a2 : Nat → Int32) : Option ((Nat ⊕ Int32) × Unit) := (xbnd (q_X11_requirePlace x1 c1_1) (fun e2 y1 => (some (Sum.inl e2, ()))) (fun v3 y4 => (some (Sum.inr (t_X5_at x1 64 a2), ()))))
theorem C_X11_byteAt {S : Nat × (Nat → Int32)} {d : Nat} {H : List xE} {z : Bool × Nat × Nat} {c1_1 : Int32} {a2 : Nat → Int32} {x1 : Int32} (u_1 : H[1]? = some (.inr (4, [.ref 2, .int c1_1]))) (u_0 : H[0]? = some (oO)) (u_2 : H[2]? = some (.inl (0, 64, .inl a2))) {x : ((Nat ⊕ Int32) × Unit)} (h : q_X11_byteAt x1 c1_1 a2 = some x) : Cm S (d + 2) 101 [.ref 0, .int x1] (H, z) (oI x.1, (H, oZ x.1 z)) := by
  have G : Go S (d + 2) 101 (0, [some (.ref 0), some (.int x1)], []) (H, z) (fun _ _ => False) (fun r => r = (oI x.1, (H, oZ x.1 z))) := by
    unfold q_X11_byteAt at h
    refine go_step (fun _ => ev_run 2 (F' := (2, [some (.ref 0), some (.int x1)], [.int x1, .ref 0])) rfl) ?_
    rcases okx h with ⟨e2, y1, hy1, h⟩ | ⟨v3, y4, hy4, h⟩
    · skip
      cases h
      exact Or.inr ⟨_, ev_callVX (x := (.invokevirtual 129, 3, 146, 10, 686, .null)) (as := [.int x1]) (rest := []) rfl rfl u_0 rfl (C_X11_requirePlace (S := S) (d := d) (z := z) (x1 := x1) u_0 u_1 hy1) rfl, rfl⟩
    · skip
      refine go_step (F1 := (5, [some (.ref 0), some (.int x1)], [])) (M1 := (H, z)) (fun _ => ev_callV (x := (.invokevirtual 129, 3, 146, 10, 686, .null)) (as := [.int x1]) (rest := []) rfl rfl u_0 (C_X11_requirePlace (S := S) (d := d) (z := z) (x1 := x1) u_0 u_1 hy4) rfl) ?_
      refine go_step (fun _ => ev_run 1 (F' := (6, [some (.ref 0), some (.int x1)], [.ref 0])) rfl) ?_
      refine go_step (fun _ => ev_getf rfl u_0 rfl) ?_
      refine go_step (fun _ => ev_run 1 (F' := (10, [some (.ref 0), some (.int x1)], [.int x1, .ref 1])) rfl) ?_
      refine go_step (F1 := (13, [some (.ref 0), some (.int x1)], [.int (t_X5_at x1 64 a2)])) (M1 := (H, z)) (fun _ => ev_callV (x := (.invokevirtual 132, 3, 55, 4, 572, .null)) (as := [.int x1]) (rest := []) rfl rfl u_1 (C_X5_at (S := S) (d := d + 1) (z := z) (x1 := x1) u_1 u_2 (by decide)) rfl) ?_
      cases h
      exact Or.inr ⟨_, ev_ret rfl rfl rfl rfl, rfl⟩
  obtain ⟨_, hE, rfl⟩ := go_end G
  exact hE
def q_X11_requireByte (x0 : Int32) : Option ((Nat ⊕ Unit) × Unit) := (if x0 < (0 : Int32) then (some (Sum.inl 0, ())) else (if x0 ≤ (255 : Int32) then (some (Sum.inr (), ())) else (some (Sum.inl 0, ()))))
theorem C_X11_requireByte {S : Nat × (Nat → Int32)} {d : Nat} {H : List xE} {z : Bool × Nat × Nat} {x0 : Int32} {x : ((Nat ⊕ Unit) × Unit)} (h : q_X11_requireByte x0 = some x) : Cm S d 152 [.int x0] (H, z) (oU x.1, (H, oZ x.1 z)) := by
  have G : Go S d 152 (0, [some (.int x0)], []) (H, z) (fun _ _ => False) (fun r => r = (oU x.1, (H, oZ x.1 z))) := by
    unfold q_X11_requireByte at h
    refine go_step (fun _ => ev_run 1 (F' := (1, [some (.int x0)], [.int x0])) rfl) ?_
    refine go_if rfl (fun (b1 : x0 < (0 : Int32)) => ?_) (fun (b1 : ¬ (x0 < (0 : Int32))) => ?_)
    · have h := (if_pos b1).symm.trans h
      cases h
      exact Or.inr ⟨_, ev_throw rfl rfl rfl rfl, rfl⟩
    · have h := (if_neg b1).symm.trans h
      refine go_step (fun _ => ev_run 2 (F' := (8, [some (.int x0)], [.int (255 : Int32), .int x0])) rfl) ?_
      refine go_icmp rfl (fun (b8 : x0 ≤ (255 : Int32)) => ?_) (fun (b8 : ¬ (x0 ≤ (255 : Int32))) => ?_)
      · have h := (if_pos b8).symm.trans h
        cases h
        exact Or.inr ⟨_, ev_ret rfl rfl rfl rfl, rfl⟩
      · have h := (if_neg b8).symm.trans h
        cases h
        exact Or.inr ⟨_, ev_throw rfl rfl rfl rfl, rfl⟩
  obtain ⟨_, hE, rfl⟩ := go_end G
  exact hE
def q_X11_put (x1 : Int32) (x2 : Int32) (c1_1 : Int32) (c3_1 : Int32) (c3_2 : Int32) (c4_0 : Int32) (a6 : Nat → Int32) (a5 : Nat → Int32) (a2 : Nat → Int32) : Option ((Nat ⊕ Int32) × (Int32 × Int32 × (Nat → Int32) × (Nat → Int32) × (Nat → Int32))) := (xbnd (q_X11_requirePlace x1 c1_1) (fun e2 y1 => (some (Sum.inl e2, (c3_1, c3_2, a6, a5, a2)))) (fun v3 y4 => (xbnd (q_X11_requireByte x2) (fun e6 y5 => (some (Sum.inl e6, (c3_1, c3_2, a6, a5, a2)))) (fun v7 y8 => ((q_X3_keep c3_1 c3_2 c4_0 c1_1 a6 a5 a2).bind (fun y9 => (some (Sum.inr (t_X5_at x1 64 a2), (y9.1, y9.2.1, y9.2.2.1, y9.2.2.2, (t_X5_change x1 x2 64 a2))))))))))
theorem C_X11_put {S : Nat × (Nat → Int32)} {d : Nat} {H : List xE} {z : Bool × Nat × Nat} {c1_1 : Int32} {c3_1 : Int32} {c3_2 : Int32} {c4_0 : Int32} {a6 : Nat → Int32} {a5 : Nat → Int32} {a2 : Nat → Int32} {x1 : Int32} {x2 : Int32} (u_1 : H[1]? = some (.inr (4, [.ref 2, .int c1_1]))) (u_0 : H[0]? = some (oO)) (u_3 : H[3]? = some (.inr (2, [.ref 4, .int c3_1, .int c3_2]))) (u_4 : H[4]? = some (.inr (7, [.int c4_0, .ref 5, .ref 6]))) (u_6 : H[6]? = some (.inl (0, 10, .inl a6))) (u_5 : H[5]? = some (.inl (0, 640, .inl a5))) (u_2 : H[2]? = some (.inl (0, 64, .inl a2))) {x : ((Nat ⊕ Int32) × (Int32 × Int32 × (Nat → Int32) × (Nat → Int32) × (Nat → Int32)))} (h : q_X11_put x1 x2 c1_1 c3_1 c3_2 c4_0 a6 a5 a2 = some x) : ∃ H' : List xE, Cm S (d + 3) 102 [.ref 0, .int x1, .int x2] (H, z) (oI x.1, (H', oZ x.1 z)) ∧ H'[3]? = some (.inr (2, [.ref 4, .int x.2.1, .int x.2.2.1])) ∧ H'[6]? = some (.inl (0, 10, .inl x.2.2.2.1)) ∧ H'[5]? = some (.inl (0, 640, .inl x.2.2.2.2.1)) ∧ H'[2]? = some (.inl (0, 64, .inl x.2.2.2.2.2)) ∧ xfr [3, 6, 5, 2] H H' := by
  have G : Go S (d + 3) 102 (0, [some (.ref 0), some (.int x1), some (.int x2), none], []) (H, z) (fun _ _ => False) (fun r => ∃ H' : List xE, r = (oI x.1, (H', oZ x.1 z)) ∧ H'[3]? = some (.inr (2, [.ref 4, .int x.2.1, .int x.2.2.1])) ∧ H'[6]? = some (.inl (0, 10, .inl x.2.2.2.1)) ∧ H'[5]? = some (.inl (0, 640, .inl x.2.2.2.2.1)) ∧ H'[2]? = some (.inl (0, 64, .inl x.2.2.2.2.2)) ∧ xfr [3, 6, 5, 2] H H') := by
    unfold q_X11_put at h
    refine go_step (fun _ => ev_run 2 (F' := (2, [some (.ref 0), some (.int x1), some (.int x2), none], [.int x1, .ref 0])) rfl) ?_
    rcases okx h with ⟨e2, y1, hy1, h⟩ | ⟨v3, y4, hy4, h⟩
    · skip
      cases h
      exact Or.inr ⟨_, ev_callVX (x := (.invokevirtual 129, 3, 146, 10, 686, .null)) (as := [.int x1]) (rest := []) rfl rfl u_0 rfl (C_X11_requirePlace (S := S) (d := d + 1) (z := z) (x1 := x1) u_0 u_1 hy1) rfl, H, rfl, u_3, u_6, u_5, u_2, xfr_refl⟩
    · skip
      refine go_step (F1 := (5, [some (.ref 0), some (.int x1), some (.int x2), none], [])) (M1 := (H, z)) (fun _ => ev_callV (x := (.invokevirtual 129, 3, 146, 10, 686, .null)) (as := [.int x1]) (rest := []) rfl rfl u_0 (C_X11_requirePlace (S := S) (d := d + 1) (z := z) (x1 := x1) u_0 u_1 hy4) rfl) ?_
      refine go_step (fun _ => ev_run 1 (F' := (6, [some (.ref 0), some (.int x1), some (.int x2), none], [.int x2])) rfl) ?_
      rcases okx h with ⟨e6, y5, hy5, h⟩ | ⟨v7, y8, hy8, h⟩
      · skip
        cases h
        exact Or.inr ⟨_, ev_callX (x := (.invokestatic 136, 3, 152, 10, 694, .null)) (as := [.int x2]) (rest := []) rfl rfl rfl (C_X11_requireByte (S := S) (d := d + 2) (z := z) (x0 := x2) hy5) rfl, H, rfl, u_3, u_6, u_5, u_2, xfr_refl⟩
      · skip
        refine go_step (F1 := (9, [some (.ref 0), some (.int x1), some (.int x2), none], [])) (M1 := (H, z)) (fun _ => ev_call (x := (.invokestatic 136, 3, 152, 10, 694, .null)) (as := [.int x2]) (rest := []) rfl rfl (C_X11_requireByte (S := S) (d := d + 2) (z := z) (x0 := x2) hy8) rfl) ?_
        refine go_step (fun _ => ev_run 1 (F' := (10, [some (.ref 0), some (.int x1), some (.int x2), none], [.ref 0])) rfl) ?_
        refine go_step (fun _ => ev_getf rfl u_0 rfl) ?_
        refine go_step (fun _ => ev_run 1 (F' := (14, [some (.ref 0), some (.int x1), some (.int x2), none], [.ref 0, .ref 3])) rfl) ?_
        refine go_step (fun _ => ev_getf rfl u_0 rfl) ?_
        obtain ⟨y9, hy9, h⟩ := okb h
        obtain ⟨H10, hCH10, eH10_3, eH10_6, eH10_5, fH10⟩ := C_X3_keep (S := S) (d := d) (z := z) u_3 u_4 u_1 u_6 u_5 u_2 hy9
        refine go_step (F1 := (20, [some (.ref 0), some (.int x1), some (.int x2), none], [])) (M1 := (H10, z)) (fun _ => ev_callV (x := (.invokevirtual 118, 3, 37, 2, 416, .null)) (as := [.ref 1]) (rest := []) rfl rfl u_3 hCH10 rfl) ?_
        refine go_step (fun _ => ev_run 1 (F' := (21, [some (.ref 0), some (.int x1), some (.int x2), none], [.ref 0])) rfl) ?_
        refine go_step (fun _ => ev_getf rfl ((fH10 0 rfl).trans u_0) rfl) ?_
        refine go_step (fun _ => ev_run 1 (F' := (25, [some (.ref 0), some (.int x1), some (.int x2), none], [.int x1, .ref 1])) rfl) ?_
        refine go_step (F1 := (28, [some (.ref 0), some (.int x1), some (.int x2), none], [.int (t_X5_at x1 64 a2)])) (M1 := (H10, z)) (fun _ => ev_callV (x := (.invokevirtual 132, 3, 55, 4, 572, .null)) (as := [.int x1]) (rest := []) rfl rfl ((fH10 1 rfl).trans u_1) (C_X5_at (S := S) (d := d + 2) (z := z) (x1 := x1) ((fH10 1 rfl).trans u_1) ((fH10 2 rfl).trans u_2) (by decide)) rfl) ?_
        refine go_step (fun _ => ev_run 2 (F' := (30, [some (.ref 0), some (.int x1), some (.int x2), some (.int (t_X5_at x1 64 a2))], [.ref 0])) rfl) ?_
        refine go_step (fun _ => ev_getf rfl ((fH10 0 rfl).trans u_0) rfl) ?_
        refine go_step (fun _ => ev_run 2 (F' := (35, [some (.ref 0), some (.int x1), some (.int x2), some (.int (t_X5_at x1 64 a2))], [.int x2, .int x1, .ref 1])) rfl) ?_
        obtain ⟨H11, hCH11, eH11_2, fH11⟩ := C_X5_change (S := S) (d := d + 2) (z := z) (x1 := x1) (x2 := x2) ((fH10 1 rfl).trans u_1) ((fH10 2 rfl).trans u_2) (by decide)
        refine go_step (F1 := (38, [some (.ref 0), some (.int x1), some (.int x2), some (.int (t_X5_at x1 64 a2))], [])) (M1 := (H11, z)) (fun _ => ev_callV (x := (.invokevirtual 139, 3, 56, 4, 748, .null)) (as := [.int x1, .int x2]) (rest := []) rfl rfl ((fH10 1 rfl).trans u_1) hCH11 rfl) ?_
        refine go_step (fun _ => ev_run 1 (F' := (39, [some (.ref 0), some (.int x1), some (.int x2), some (.int (t_X5_at x1 64 a2))], [.int (t_X5_at x1 64 a2)])) rfl) ?_
        cases h
        exact Or.inr ⟨_, ev_ret rfl rfl rfl rfl, H11, rfl, ((fH11 3 rfl).trans eH10_3), ((fH11 6 rfl).trans eH10_6), ((fH11 5 rfl).trans eH10_5), eH11_2, (xfr_t (xfr_t xfr_refl rfl fH10) rfl fH11)⟩
  obtain ⟨_, hE, H', rfl, hrest⟩ := go_end G
  exact ⟨H', hE, hrest⟩
def q_X11_undo (c3_1 : Int32) (c3_2 : Int32) (c4_0 : Int32) (a6 : Nat → Int32) (a5 : Nat → Int32) (a2 : Nat → Int32) (c1_1 : Int32) : Option ((Nat ⊕ Int32) × (Int32 × Int32 × (Nat → Int32) × Int32)) := (if ¬ (t_X3_hasSome c3_2) = (0 : Int32) then ((q_X3_giveBack c3_1 c3_2 c4_0 a6 a5 a2).bind (fun y1 => (some (Sum.inr (t_X5_size y1.2.2.1), (y1.1, y1.2.1, y1.2.2.2, y1.2.2.1))))) else (some (Sum.inl 3, (c3_1, c3_2, a2, c1_1))))
theorem C_X11_undo {S : Nat × (Nat → Int32)} {d : Nat} {H : List xE} {z : Bool × Nat × Nat} {c3_1 : Int32} {c3_2 : Int32} {c4_0 : Int32} {a6 : Nat → Int32} {a5 : Nat → Int32} {a2 : Nat → Int32} {c1_1 : Int32} (u_0 : H[0]? = some (oO)) (u_3 : H[3]? = some (.inr (2, [.ref 4, .int c3_1, .int c3_2]))) (u_4 : H[4]? = some (.inr (7, [.int c4_0, .ref 5, .ref 6]))) (u_6 : H[6]? = some (.inl (0, 10, .inl a6))) (u_5 : H[5]? = some (.inl (0, 640, .inl a5))) (u_2 : H[2]? = some (.inl (0, 64, .inl a2))) (u_1 : H[1]? = some (.inr (4, [.ref 2, .int c1_1]))) {x : ((Nat ⊕ Int32) × (Int32 × Int32 × (Nat → Int32) × Int32))} (h : q_X11_undo c3_1 c3_2 c4_0 a6 a5 a2 c1_1 = some x) : ∃ H' : List xE, Cm S (d + 5) 103 [.ref 0] (H, z) (oI x.1, (H', oZ x.1 z)) ∧ H'[3]? = some (.inr (2, [.ref 4, .int x.2.1, .int x.2.2.1])) ∧ H'[2]? = some (.inl (0, 64, .inl x.2.2.2.1)) ∧ H'[1]? = some (.inr (4, [.ref 2, .int x.2.2.2.2])) ∧ xfr [3, 2, 1] H H' := by
  have G : Go S (d + 5) 103 (0, [some (.ref 0)], []) (H, z) (fun _ _ => False) (fun r => ∃ H' : List xE, r = (oI x.1, (H', oZ x.1 z)) ∧ H'[3]? = some (.inr (2, [.ref 4, .int x.2.1, .int x.2.2.1])) ∧ H'[2]? = some (.inl (0, 64, .inl x.2.2.2.1)) ∧ H'[1]? = some (.inr (4, [.ref 2, .int x.2.2.2.2])) ∧ xfr [3, 2, 1] H H') := by
    unfold q_X11_undo at h
    refine go_step (fun _ => ev_run 1 (F' := (1, [some (.ref 0)], [.ref 0])) rfl) ?_
    refine go_step (fun _ => ev_getf rfl u_0 rfl) ?_
    refine go_step (F1 := (7, [some (.ref 0)], [.int (t_X3_hasSome c3_2)])) (M1 := (H, z)) (fun _ => ev_callV (x := (.invokevirtual 157, 3, 36, 2, 769, .null)) (as := []) (rest := []) rfl rfl u_3 (C_X3_hasSome (S := S) (d := d + 4) (z := z) u_3) rfl) ?_
    refine go_if rfl (fun (b7 : ¬ (t_X3_hasSome c3_2) = (0 : Int32)) => ?_) (fun (b7 : ¬ (¬ (t_X3_hasSome c3_2) = (0 : Int32))) => ?_)
    · have h := (if_pos b7).symm.trans h
      refine go_step (fun _ => ev_run 1 (F' := (21, [some (.ref 0)], [.ref 0])) rfl) ?_
      refine go_step (fun _ => ev_getf rfl u_0 rfl) ?_
      refine go_step (fun _ => ev_run 1 (F' := (25, [some (.ref 0)], [.ref 0, .ref 3])) rfl) ?_
      refine go_step (fun _ => ev_getf rfl u_0 rfl) ?_
      obtain ⟨y1, hy1, h⟩ := okb h
      obtain ⟨H2, hCH2, eH2_3, eH2_1, eH2_2, fH2⟩ := C_X3_giveBack (S := S) (d := d) (z := z) u_3 u_4 u_1 u_6 u_5 u_2 hy1
      refine go_step (F1 := (31, [some (.ref 0)], [])) (M1 := (H2, z)) (fun _ => ev_callV (x := (.invokevirtual 166, 3, 38, 2, 789, .null)) (as := [.ref 1]) (rest := []) rfl rfl u_3 hCH2 rfl) ?_
      refine go_step (fun _ => ev_run 1 (F' := (32, [some (.ref 0)], [.ref 0])) rfl) ?_
      refine go_step (fun _ => ev_getf rfl ((fH2 0 rfl).trans u_0) rfl) ?_
      refine go_step (F1 := (38, [some (.ref 0)], [.int (t_X5_size y1.2.2.1)])) (M1 := (H2, z)) (fun _ => ev_callV (x := (.invokevirtual 109, 3, 53, 4, 396, .null)) (as := []) (rest := []) rfl rfl eH2_1 (C_X5_size (S := S) (d := d + 4) (z := z) eH2_1) rfl) ?_
      cases h
      exact Or.inr ⟨_, ev_ret rfl rfl rfl rfl, H2, rfl, eH2_3, eH2_2, eH2_1, (xfr_t xfr_refl rfl fH2)⟩
    · have h := (if_neg b7).symm.trans h
      cases h
      exact Or.inr ⟨_, ev_throw rfl rfl rfl rfl, H, rfl, u_3, u_2, u_1, xfr_refl⟩
  obtain ⟨_, hE, H', rfl, hrest⟩ := go_end G
  exact ⟨H', hE, hrest⟩
def q_X11_requireSpan (x1 : Int32) (x2 : Int32) (c1_1 : Int32) : Option ((Nat ⊕ Unit) × Unit) := (if x1 < (0 : Int32) then (some (Sum.inl 2, ())) else (if x2 < x1 then (some (Sum.inl 2, ())) else (if x2 ≤ (t_X5_size c1_1) then (some (Sum.inr (), ())) else (some (Sum.inl 2, ())))))
theorem C_X11_requireSpan {S : Nat × (Nat → Int32)} {d : Nat} {H : List xE} {z : Bool × Nat × Nat} {c1_1 : Int32} {x1 : Int32} {x2 : Int32} (u_0 : H[0]? = some (oO)) (u_1 : H[1]? = some (.inr (4, [.ref 2, .int c1_1]))) {x : ((Nat ⊕ Unit) × Unit)} (h : q_X11_requireSpan x1 x2 c1_1 = some x) : Cm S (d + 1) 148 [.ref 0, .int x1, .int x2] (H, z) (oU x.1, (H, oZ x.1 z)) := by
  have G : Go S (d + 1) 148 (0, [some (.ref 0), some (.int x1), some (.int x2)], []) (H, z) (fun _ _ => False) (fun r => r = (oU x.1, (H, oZ x.1 z))) := by
    unfold q_X11_requireSpan at h
    refine go_step (fun _ => ev_run 1 (F' := (1, [some (.ref 0), some (.int x1), some (.int x2)], [.int x1])) rfl) ?_
    refine go_if rfl (fun (b1 : x1 < (0 : Int32)) => ?_) (fun (b1 : ¬ (x1 < (0 : Int32))) => ?_)
    · have h := (if_pos b1).symm.trans h
      cases h
      exact Or.inr ⟨_, ev_throw rfl rfl rfl rfl, rfl⟩
    · have h := (if_neg b1).symm.trans h
      refine go_step (fun _ => ev_run 2 (F' := (6, [some (.ref 0), some (.int x1), some (.int x2)], [.int x1, .int x2])) rfl) ?_
      refine go_icmp rfl (fun (b6 : x2 < x1) => ?_) (fun (b6 : ¬ (x2 < x1)) => ?_)
      · have h := (if_pos b6).symm.trans h
        cases h
        exact Or.inr ⟨_, ev_throw rfl rfl rfl rfl, rfl⟩
      · have h := (if_neg b6).symm.trans h
        refine go_step (fun _ => ev_run 2 (F' := (11, [some (.ref 0), some (.int x1), some (.int x2)], [.ref 0, .int x2])) rfl) ?_
        refine go_step (fun _ => ev_getf rfl u_0 rfl) ?_
        refine go_step (F1 := (17, [some (.ref 0), some (.int x1), some (.int x2)], [.int (t_X5_size c1_1), .int x2])) (M1 := (H, z)) (fun _ => ev_callV (x := (.invokevirtual 109, 3, 53, 4, 396, .null)) (as := []) (rest := [.int x2]) rfl rfl u_1 (C_X5_size (S := S) (d := d) (z := z) u_1) rfl) ?_
        refine go_icmp rfl (fun (b17 : x2 ≤ (t_X5_size c1_1)) => ?_) (fun (b17 : ¬ (x2 ≤ (t_X5_size c1_1))) => ?_)
        · have h := (if_pos b17).symm.trans h
          cases h
          exact Or.inr ⟨_, ev_ret rfl rfl rfl rfl, rfl⟩
        · have h := (if_neg b17).symm.trans h
          cases h
          exact Or.inr ⟨_, ev_throw rfl rfl rfl rfl, rfl⟩
  obtain ⟨_, hE, rfl⟩ := go_end G
  exact hE
def q_X11_librarySum (x1 : Int32) (x2 : Int32) (c1_1 : Int32) (a2 : Nat → Int32) : Option ((Nat ⊕ Int64) × Unit) := (xbnd (q_X11_requireSpan x1 x2 c1_1) (fun e2 y1 => (some (Sum.inl e2, ()))) (fun v3 y4 => ((q_X2_sumOf x1 x2 a2).bind (fun y5 => (some (Sum.inr y5, ()))))))
theorem C_X11_librarySum {S : Nat × (Nat → Int32)} {d : Nat} {H : List xE} {z : Bool × Nat × Nat} {c1_1 : Int32} {a2 : Nat → Int32} {x1 : Int32} {x2 : Int32} (u_1 : H[1]? = some (.inr (4, [.ref 2, .int c1_1]))) (u_0 : H[0]? = some (oO)) (u_2 : H[2]? = some (.inl (0, 64, .inl a2))) {x : ((Nat ⊕ Int64) × Unit)} (h : q_X11_librarySum x1 x2 c1_1 a2 = some x) : Cm S (d + 3) 104 [.ref 0, .int x1, .int x2] (H, z) (oL x.1, (H, oZ x.1 z)) := by
  have G : Go S (d + 3) 104 (0, [some (.ref 0), some (.int x1), some (.int x2)], []) (H, z) (fun _ _ => False) (fun r => r = (oL x.1, (H, oZ x.1 z))) := by
    unfold q_X11_librarySum at h
    refine go_step (fun _ => ev_run 3 (F' := (3, [some (.ref 0), some (.int x1), some (.int x2)], [.int x2, .int x1, .ref 0])) rfl) ?_
    rcases okx h with ⟨e2, y1, hy1, h⟩ | ⟨v3, y4, hy4, h⟩
    · skip
      cases h
      exact Or.inr ⟨_, ev_callVX (x := (.invokevirtual 169, 3, 148, 10, 453, .null)) (as := [.int x1, .int x2]) (rest := []) rfl rfl u_0 rfl (C_X11_requireSpan (S := S) (d := d + 1) (z := z) (x1 := x1) (x2 := x2) u_0 u_1 hy1) rfl, rfl⟩
    · skip
      refine go_step (F1 := (6, [some (.ref 0), some (.int x1), some (.int x2)], [])) (M1 := (H, z)) (fun _ => ev_callV (x := (.invokevirtual 169, 3, 148, 10, 453, .null)) (as := [.int x1, .int x2]) (rest := []) rfl rfl u_0 (C_X11_requireSpan (S := S) (d := d + 1) (z := z) (x1 := x1) (x2 := x2) u_0 u_1 hy4) rfl) ?_
      refine go_step (fun _ => ev_run 1 (F' := (7, [some (.ref 0), some (.int x1), some (.int x2)], [.ref 0])) rfl) ?_
      refine go_step (fun _ => ev_getf rfl u_0 rfl) ?_
      refine go_step (fun _ => ev_run 2 (F' := (12, [some (.ref 0), some (.int x1), some (.int x2)], [.int x2, .int x1, .ref 1])) rfl) ?_
      obtain ⟨y5, hy5, h⟩ := okb h
      refine go_step (F1 := (15, [some (.ref 0), some (.int x1), some (.int x2)], [.long y5])) (M1 := (H, z)) (fun _ => ev_call (x := (.invokestatic 172, 3, 26, 0, 473, .null)) (as := [.ref 1, .int x1, .int x2]) (rest := []) rfl rfl (C_X2_sumOf (S := S) (d := d) (z := z) (x1 := x1) (x2 := x2) u_2 u_1 hy5) rfl) ?_
      cases h
      exact Or.inr ⟨_, ev_ret rfl rfl rfl rfl, rfl⟩
  obtain ⟨_, hE, rfl⟩ := go_end G
  exact hE
def q_X11_kind (x1 : Int32) (x2 : Int32) (x3 : Int32) (x4 : Int32) (x5 : Int32) (c8_0 : Int32) (c8_1 : Int32) (c8_2 : Int32) (c8_3 : Int32) (c8_4 : Int32) (c8_5 : Int32) : Option ((Nat ⊕ Int32) × (Int32 × Int32 × Int32 × Int32 × Int32 × Int32)) := (if x1 < (1 : Int32) then (some (Sum.inl 0, (c8_0, c8_1, c8_2, c8_3, c8_4, c8_5))) else (if x1 ≤ (32 : Int32) then (if (x2 &&& (1 : Int32)) = (0 : Int32) then (some (Sum.inl 0, (c8_0, c8_1, c8_2, c8_3, c8_4, c8_5))) else (if ¬ (t_X1_fits x2 x1) = (0 : Int32) then (if (t_X1_fits x3 x1) = (0 : Int32) then (some (Sum.inl 0, (c8_0, c8_1, c8_2, c8_3, c8_4, c8_5))) else (if ¬ (t_X1_fits x4 x1) = (0 : Int32) then (if x5 < (0 : Int32) then (some (Sum.inl 0, (c8_0, c8_1, c8_2, c8_3, c8_4, c8_5))) else (if x5 ≤ (3 : Int32) then (some (Sum.inr (t_X1_width c8_0), ((t_X1_tell x1 x2 x3 x4 x5).1, (t_X1_tell x1 x2 x3 x4 x5).2.1, (t_X1_tell x1 x2 x3 x4 x5).2.2.1, (t_X1_tell x1 x2 x3 x4 x5).2.2.2.1, (t_X1_tell x1 x2 x3 x4 x5).2.2.2.2.1, (t_X1_tell x1 x2 x3 x4 x5).2.2.2.2.2))) else (some (Sum.inl 0, (c8_0, c8_1, c8_2, c8_3, c8_4, c8_5))))) else (some (Sum.inl 0, (c8_0, c8_1, c8_2, c8_3, c8_4, c8_5))))) else (some (Sum.inl 0, (c8_0, c8_1, c8_2, c8_3, c8_4, c8_5))))) else (some (Sum.inl 0, (c8_0, c8_1, c8_2, c8_3, c8_4, c8_5)))))
theorem C_X11_kind {S : Nat × (Nat → Int32)} {d : Nat} {H : List xE} {z : Bool × Nat × Nat} {c8_0 : Int32} {c8_1 : Int32} {c8_2 : Int32} {c8_3 : Int32} {c8_4 : Int32} {c8_5 : Int32} {x1 : Int32} {x2 : Int32} {x3 : Int32} {x4 : Int32} {x5 : Int32} (u_0 : H[0]? = some (oO)) (u_8 : H[8]? = some (.inr (1, [.int c8_0, .int c8_1, .int c8_2, .int c8_3, .int c8_4, .int c8_5]))) {x : ((Nat ⊕ Int32) × (Int32 × Int32 × Int32 × Int32 × Int32 × Int32))} (h : q_X11_kind x1 x2 x3 x4 x5 c8_0 c8_1 c8_2 c8_3 c8_4 c8_5 = some x) : ∃ H' : List xE, Cm S (d + 1) 105 [.ref 0, .int x1, .int x2, .int x3, .int x4, .int x5] (H, z) (oI x.1, (H', oZ x.1 z)) ∧ H'[8]? = some (.inr (1, [.int x.2.1, .int x.2.2.1, .int x.2.2.2.1, .int x.2.2.2.2.1, .int x.2.2.2.2.2.1, .int x.2.2.2.2.2.2])) ∧ xfr [8] H H' := by
  have G : Go S (d + 1) 105 (0, [some (.ref 0), some (.int x1), some (.int x2), some (.int x3), some (.int x4), some (.int x5), none], []) (H, z) (fun _ _ => False) (fun r => ∃ H' : List xE, r = (oI x.1, (H', oZ x.1 z)) ∧ H'[8]? = some (.inr (1, [.int x.2.1, .int x.2.2.1, .int x.2.2.2.1, .int x.2.2.2.2.1, .int x.2.2.2.2.2.1, .int x.2.2.2.2.2.2])) ∧ xfr [8] H H') := by
    unfold q_X11_kind at h
    refine go_step (fun _ => ev_run 2 (F' := (2, [some (.ref 0), some (.int x1), some (.int x2), some (.int x3), some (.int x4), some (.int x5), none], [.int (1 : Int32), .int x1])) rfl) ?_
    refine go_icmp rfl (fun (b2 : x1 < (1 : Int32)) => ?_) (fun (b2 : ¬ (x1 < (1 : Int32))) => ?_)
    · have h := (if_pos b2).symm.trans h
      cases h
      exact Or.inr ⟨_, ev_throw rfl rfl rfl rfl, H, rfl, u_8, xfr_refl⟩
    · have h := (if_neg b2).symm.trans h
      refine go_step (fun _ => ev_run 2 (F' := (8, [some (.ref 0), some (.int x1), some (.int x2), some (.int x3), some (.int x4), some (.int x5), none], [.int (32 : Int32), .int x1])) rfl) ?_
      refine go_icmp rfl (fun (b8 : x1 ≤ (32 : Int32)) => ?_) (fun (b8 : ¬ (x1 ≤ (32 : Int32))) => ?_)
      · have h := (if_pos b8).symm.trans h
        refine go_step (fun _ => ev_run 3 (F' := (24, [some (.ref 0), some (.int x1), some (.int x2), some (.int x3), some (.int x4), some (.int x5), none], [.int (x2 &&& (1 : Int32))])) rfl) ?_
        refine go_if rfl (fun (b24 : (x2 &&& (1 : Int32)) = (0 : Int32)) => ?_) (fun (b24 : ¬ ((x2 &&& (1 : Int32)) = (0 : Int32))) => ?_)
        · have h := (if_pos b24).symm.trans h
          cases h
          exact Or.inr ⟨_, ev_throw rfl rfl rfl rfl, H, rfl, u_8, xfr_refl⟩
        · have h := (if_neg b24).symm.trans h
          refine go_step (fun _ => ev_run 2 (F' := (29, [some (.ref 0), some (.int x1), some (.int x2), some (.int x3), some (.int x4), some (.int x5), none], [.int x1, .int x2])) rfl) ?_
          refine go_step (F1 := (32, [some (.ref 0), some (.int x1), some (.int x2), some (.int x3), some (.int x4), some (.int x5), none], [.int (t_X1_fits x2 x1)])) (M1 := (H, z)) (fun _ => ev_call (x := (.invokestatic 180, 3, 11, 1, 493, .null)) (as := [.int x2, .int x1]) (rest := []) rfl rfl (C_X1_fits (S := S) (d := d) (z := z) (x0 := x2) (x1 := x1)) rfl) ?_
          refine go_if rfl (fun (b32 : ¬ (t_X1_fits x2 x1) = (0 : Int32)) => ?_) (fun (b32 : ¬ (¬ (t_X1_fits x2 x1) = (0 : Int32))) => ?_)
          · have h := (if_pos b32).symm.trans h
            refine go_step (fun _ => ev_run 2 (F' := (47, [some (.ref 0), some (.int x1), some (.int x2), some (.int x3), some (.int x4), some (.int x5), none], [.int x1, .int x3])) rfl) ?_
            refine go_step (F1 := (50, [some (.ref 0), some (.int x1), some (.int x2), some (.int x3), some (.int x4), some (.int x5), none], [.int (t_X1_fits x3 x1)])) (M1 := (H, z)) (fun _ => ev_call (x := (.invokestatic 180, 3, 11, 1, 493, .null)) (as := [.int x3, .int x1]) (rest := []) rfl rfl (C_X1_fits (S := S) (d := d) (z := z) (x0 := x3) (x1 := x1)) rfl) ?_
            refine go_if rfl (fun (b50 : (t_X1_fits x3 x1) = (0 : Int32)) => ?_) (fun (b50 : ¬ ((t_X1_fits x3 x1) = (0 : Int32))) => ?_)
            · have h := (if_pos b50).symm.trans h
              cases h
              exact Or.inr ⟨_, ev_throw rfl rfl rfl rfl, H, rfl, u_8, xfr_refl⟩
            · have h := (if_neg b50).symm.trans h
              refine go_step (fun _ => ev_run 2 (F' := (56, [some (.ref 0), some (.int x1), some (.int x2), some (.int x3), some (.int x4), some (.int x5), none], [.int x1, .int x4])) rfl) ?_
              refine go_step (F1 := (59, [some (.ref 0), some (.int x1), some (.int x2), some (.int x3), some (.int x4), some (.int x5), none], [.int (t_X1_fits x4 x1)])) (M1 := (H, z)) (fun _ => ev_call (x := (.invokestatic 180, 3, 11, 1, 493, .null)) (as := [.int x4, .int x1]) (rest := []) rfl rfl (C_X1_fits (S := S) (d := d) (z := z) (x0 := x4) (x1 := x1)) rfl) ?_
              refine go_if rfl (fun (b59 : ¬ (t_X1_fits x4 x1) = (0 : Int32)) => ?_) (fun (b59 : ¬ (¬ (t_X1_fits x4 x1) = (0 : Int32))) => ?_)
              · have h := (if_pos b59).symm.trans h
                refine go_step (fun _ => ev_run 1 (F' := (74, [some (.ref 0), some (.int x1), some (.int x2), some (.int x3), some (.int x4), some (.int x5), none], [.int x5])) rfl) ?_
                refine go_if rfl (fun (b74 : x5 < (0 : Int32)) => ?_) (fun (b74 : ¬ (x5 < (0 : Int32))) => ?_)
                · have h := (if_pos b74).symm.trans h
                  cases h
                  exact Or.inr ⟨_, ev_throw rfl rfl rfl rfl, H, rfl, u_8, xfr_refl⟩
                · have h := (if_neg b74).symm.trans h
                  refine go_step (fun _ => ev_run 2 (F' := (80, [some (.ref 0), some (.int x1), some (.int x2), some (.int x3), some (.int x4), some (.int x5), none], [.int (3 : Int32), .int x5])) rfl) ?_
                  refine go_icmp rfl (fun (b80 : x5 ≤ (3 : Int32)) => ?_) (fun (b80 : ¬ (x5 ≤ (3 : Int32))) => ?_)
                  · have h := (if_pos b80).symm.trans h
                    refine go_step (fun _ => ev_run 1 (F' := (94, [some (.ref 0), some (.int x1), some (.int x2), some (.int x3), some (.int x4), some (.int x5), none], [.ref 0])) rfl) ?_
                    refine go_step (fun _ => ev_getf rfl u_0 rfl) ?_
                    refine go_step (F1 := (100, [some (.ref 0), some (.int x1), some (.int x2), some (.int x3), some (.int x4), some (.int x5), none], [.int (t_X1_width c8_0)])) (M1 := (H, z)) (fun _ => ev_callV (x := (.invokevirtual 190, 3, 13, 1, 499, .null)) (as := []) (rest := []) rfl rfl u_8 (C_X1_width (S := S) (d := d) (z := z) u_8) rfl) ?_
                    refine go_step (fun _ => ev_run 2 (F' := (103, [some (.ref 0), some (.int x1), some (.int x2), some (.int x3), some (.int x4), some (.int x5), some (.int (t_X1_width c8_0))], [.ref 0])) rfl) ?_
                    refine go_step (fun _ => ev_getf rfl u_0 rfl) ?_
                    refine go_step (fun _ => ev_run 5 (F' := (113, [some (.ref 0), some (.int x1), some (.int x2), some (.int x3), some (.int x4), some (.int x5), some (.int (t_X1_width c8_0))], [.int x5, .int x4, .int x3, .int x2, .int x1, .ref 8])) rfl) ?_
                    obtain ⟨H1, hCH1, eH1_8, fH1⟩ := C_X1_tell (S := S) (d := d) (z := z) (x1 := x1) (x2 := x2) (x3 := x3) (x4 := x4) (x5 := x5) u_8
                    refine go_step (F1 := (116, [some (.ref 0), some (.int x1), some (.int x2), some (.int x3), some (.int x4), some (.int x5), some (.int (t_X1_width c8_0))], [])) (M1 := (H1, z)) (fun _ => ev_callV (x := (.invokevirtual 193, 3, 12, 1, 503, .null)) (as := [.int x1, .int x2, .int x3, .int x4, .int x5]) (rest := []) rfl rfl u_8 hCH1 rfl) ?_
                    refine go_step (fun _ => ev_run 1 (F' := (118, [some (.ref 0), some (.int x1), some (.int x2), some (.int x3), some (.int x4), some (.int x5), some (.int (t_X1_width c8_0))], [.int (t_X1_width c8_0)])) rfl) ?_
                    cases h
                    exact Or.inr ⟨_, ev_ret rfl rfl rfl rfl, H1, rfl, eH1_8, (xfr_t xfr_refl rfl fH1)⟩
                  · have h := (if_neg b80).symm.trans h
                    cases h
                    exact Or.inr ⟨_, ev_throw rfl rfl rfl rfl, H, rfl, u_8, xfr_refl⟩
              · have h := (if_neg b59).symm.trans h
                cases h
                exact Or.inr ⟨_, ev_throw rfl rfl rfl rfl, H, rfl, u_8, xfr_refl⟩
          · have h := (if_neg b32).symm.trans h
            cases h
            exact Or.inr ⟨_, ev_throw rfl rfl rfl rfl, H, rfl, u_8, xfr_refl⟩
      · have h := (if_neg b8).symm.trans h
        cases h
        exact Or.inr ⟨_, ev_throw rfl rfl rfl rfl, H, rfl, u_8, xfr_refl⟩
  obtain ⟨_, hE, H', rfl, hrest⟩ := go_end G
  exact ⟨H', hE, hrest⟩
def q_X11_sum (x1 : Int32) (x2 : Int32) (c1_1 : Int32) (c8_0 : Int32) (c8_1 : Int32) (c8_2 : Int32) (c8_3 : Int32) (c8_4 : Int32) (c8_5 : Int32) (a2 : Nat → Int32) : Option ((Nat ⊕ Int64) × Unit) := (xbnd (q_X11_requireSpan x1 x2 c1_1) (fun e2 y1 => (some (Sum.inl e2, ()))) (fun v3 y4 => ((q_X1_sumOf x1 x2 c8_0 c8_1 c8_2 c8_3 c8_4 c8_5 a2).bind (fun y5 => (some (Sum.inr y5, ()))))))
theorem C_X11_sum {S : Nat × (Nat → Int32)} {d : Nat} {H : List xE} {z : Bool × Nat × Nat} {c1_1 : Int32} {c8_0 : Int32} {c8_1 : Int32} {c8_2 : Int32} {c8_3 : Int32} {c8_4 : Int32} {c8_5 : Int32} {a2 : Nat → Int32} {x1 : Int32} {x2 : Int32} (u_1 : H[1]? = some (.inr (4, [.ref 2, .int c1_1]))) (u_0 : H[0]? = some (oO)) (u_8 : H[8]? = some (.inr (1, [.int c8_0, .int c8_1, .int c8_2, .int c8_3, .int c8_4, .int c8_5]))) (u_2 : H[2]? = some (.inl (0, 64, .inl a2))) {x : ((Nat ⊕ Int64) × Unit)} (h : q_X11_sum x1 x2 c1_1 c8_0 c8_1 c8_2 c8_3 c8_4 c8_5 a2 = some x) : Cm S (d + 3) 106 [.ref 0, .int x1, .int x2] (H, z) (oL x.1, (H, oZ x.1 z)) := by
  have G : Go S (d + 3) 106 (0, [some (.ref 0), some (.int x1), some (.int x2)], []) (H, z) (fun _ _ => False) (fun r => r = (oL x.1, (H, oZ x.1 z))) := by
    unfold q_X11_sum at h
    refine go_step (fun _ => ev_run 3 (F' := (3, [some (.ref 0), some (.int x1), some (.int x2)], [.int x2, .int x1, .ref 0])) rfl) ?_
    rcases okx h with ⟨e2, y1, hy1, h⟩ | ⟨v3, y4, hy4, h⟩
    · skip
      cases h
      exact Or.inr ⟨_, ev_callVX (x := (.invokevirtual 169, 3, 148, 10, 453, .null)) (as := [.int x1, .int x2]) (rest := []) rfl rfl u_0 rfl (C_X11_requireSpan (S := S) (d := d + 1) (z := z) (x1 := x1) (x2 := x2) u_0 u_1 hy1) rfl, rfl⟩
    · skip
      refine go_step (F1 := (6, [some (.ref 0), some (.int x1), some (.int x2)], [])) (M1 := (H, z)) (fun _ => ev_callV (x := (.invokevirtual 169, 3, 148, 10, 453, .null)) (as := [.int x1, .int x2]) (rest := []) rfl rfl u_0 (C_X11_requireSpan (S := S) (d := d + 1) (z := z) (x1 := x1) (x2 := x2) u_0 u_1 hy4) rfl) ?_
      refine go_step (fun _ => ev_run 1 (F' := (7, [some (.ref 0), some (.int x1), some (.int x2)], [.ref 0])) rfl) ?_
      refine go_step (fun _ => ev_getf rfl u_0 rfl) ?_
      refine go_step (fun _ => ev_run 1 (F' := (11, [some (.ref 0), some (.int x1), some (.int x2)], [.ref 0, .ref 8])) rfl) ?_
      refine go_step (fun _ => ev_getf rfl u_0 rfl) ?_
      refine go_step (fun _ => ev_run 2 (F' := (16, [some (.ref 0), some (.int x1), some (.int x2)], [.int x2, .int x1, .ref 1, .ref 8])) rfl) ?_
      obtain ⟨y5, hy5, h⟩ := okb h
      refine go_step (F1 := (19, [some (.ref 0), some (.int x1), some (.int x2)], [.long y5])) (M1 := (H, z)) (fun _ => ev_callV (x := (.invokevirtual 197, 3, 15, 1, 511, .null)) (as := [.ref 1, .int x1, .int x2]) (rest := []) rfl rfl u_8 (C_X1_sumOf (S := S) (d := d) (z := z) (x2 := x1) (x3 := x2) u_8 u_1 u_2 hy5) rfl) ?_
      cases h
      exact Or.inr ⟨_, ev_ret rfl rfl rfl rfl, rfl⟩
  obtain ⟨_, hE, rfl⟩ := go_end G
  exact hE
def q_X11_requirePlaceOrEnd (x1 : Int32) (c1_1 : Int32) : Option ((Nat ⊕ Unit) × Unit) := (if x1 < (0 : Int32) then (some (Sum.inl 2, ())) else (if x1 ≤ (t_X5_size c1_1) then (some (Sum.inr (), ())) else (some (Sum.inl 2, ()))))
theorem C_X11_requirePlaceOrEnd {S : Nat × (Nat → Int32)} {d : Nat} {H : List xE} {z : Bool × Nat × Nat} {c1_1 : Int32} {x1 : Int32} (u_0 : H[0]? = some (oO)) (u_1 : H[1]? = some (.inr (4, [.ref 2, .int c1_1]))) {x : ((Nat ⊕ Unit) × Unit)} (h : q_X11_requirePlaceOrEnd x1 c1_1 = some x) : Cm S (d + 1) 147 [.ref 0, .int x1] (H, z) (oU x.1, (H, oZ x.1 z)) := by
  have G : Go S (d + 1) 147 (0, [some (.ref 0), some (.int x1)], []) (H, z) (fun _ _ => False) (fun r => r = (oU x.1, (H, oZ x.1 z))) := by
    unfold q_X11_requirePlaceOrEnd at h
    refine go_step (fun _ => ev_run 1 (F' := (1, [some (.ref 0), some (.int x1)], [.int x1])) rfl) ?_
    refine go_if rfl (fun (b1 : x1 < (0 : Int32)) => ?_) (fun (b1 : ¬ (x1 < (0 : Int32))) => ?_)
    · have h := (if_pos b1).symm.trans h
      cases h
      exact Or.inr ⟨_, ev_throw rfl rfl rfl rfl, rfl⟩
    · have h := (if_neg b1).symm.trans h
      refine go_step (fun _ => ev_run 2 (F' := (6, [some (.ref 0), some (.int x1)], [.ref 0, .int x1])) rfl) ?_
      refine go_step (fun _ => ev_getf rfl u_0 rfl) ?_
      refine go_step (F1 := (12, [some (.ref 0), some (.int x1)], [.int (t_X5_size c1_1), .int x1])) (M1 := (H, z)) (fun _ => ev_callV (x := (.invokevirtual 109, 3, 53, 4, 396, .null)) (as := []) (rest := [.int x1]) rfl rfl u_1 (C_X5_size (S := S) (d := d) (z := z) u_1) rfl) ?_
      refine go_icmp rfl (fun (b12 : x1 ≤ (t_X5_size c1_1)) => ?_) (fun (b12 : ¬ (x1 ≤ (t_X5_size c1_1))) => ?_)
      · have h := (if_pos b12).symm.trans h
        cases h
        exact Or.inr ⟨_, ev_ret rfl rfl rfl rfl, rfl⟩
      · have h := (if_neg b12).symm.trans h
        cases h
        exact Or.inr ⟨_, ev_throw rfl rfl rfl rfl, rfl⟩
  obtain ⟨_, hE, rfl⟩ := go_end G
  exact hE
def q_X11_sumByJoining (x1 : Int32) (c8_0 : Int32) (c8_1 : Int32) (c8_2 : Int32) (c8_3 : Int32) (c8_4 : Int32) (c8_5 : Int32) (a2 : Nat → Int32) (c1_1 : Int32) : Option Int64 := ((q_X1_sumOf (0 : Int32) x1 c8_0 c8_1 c8_2 c8_3 c8_4 c8_5 a2).bind (fun y1 => ((q_X1_sumOf x1 (t_X5_size c1_1) c8_0 c8_1 c8_2 c8_3 c8_4 c8_5 a2).bind (fun y2 => ((q_X1_sumOfBoth y1 y2 ((t_X5_size c1_1) - x1) c8_0 c8_1 c8_2 c8_3 c8_5).bind (fun y3 => (some y3)))))))
theorem C_X11_sumByJoining {S : Nat × (Nat → Int32)} {d : Nat} {H : List xE} {z : Bool × Nat × Nat} {c8_0 : Int32} {c8_1 : Int32} {c8_2 : Int32} {c8_3 : Int32} {c8_4 : Int32} {c8_5 : Int32} {a2 : Nat → Int32} {c1_1 : Int32} {x1 : Int32} (u_0 : H[0]? = some (oO)) (u_8 : H[8]? = some (.inr (1, [.int c8_0, .int c8_1, .int c8_2, .int c8_3, .int c8_4, .int c8_5]))) (u_2 : H[2]? = some (.inl (0, 64, .inl a2))) (u_1 : H[1]? = some (.inr (4, [.ref 2, .int c1_1]))) {x : Int64} (h : q_X11_sumByJoining x1 c8_0 c8_1 c8_2 c8_3 c8_4 c8_5 a2 c1_1 = some x) : Cm S (d + 4) 139 [.ref 0, .int x1] (H, z) (.inr (some (.long x)), (H, z)) := by
  have G : Go S (d + 4) 139 (0, [some (.ref 0), some (.int x1), none, none, none, none], []) (H, z) (fun _ _ => False) (fun r => r = (.inr (some (.long x)), (H, z))) := by
    unfold q_X11_sumByJoining at h
    refine go_step (fun _ => ev_run 1 (F' := (1, [some (.ref 0), some (.int x1), none, none, none, none], [.ref 0])) rfl) ?_
    refine go_step (fun _ => ev_getf rfl u_0 rfl) ?_
    refine go_step (fun _ => ev_run 1 (F' := (5, [some (.ref 0), some (.int x1), none, none, none, none], [.ref 0, .ref 8])) rfl) ?_
    refine go_step (fun _ => ev_getf rfl u_0 rfl) ?_
    refine go_step (fun _ => ev_run 2 (F' := (10, [some (.ref 0), some (.int x1), none, none, none, none], [.int x1, .int (0 : Int32), .ref 1, .ref 8])) rfl) ?_
    obtain ⟨y1, hy1, h⟩ := okb h
    refine go_step (F1 := (13, [some (.ref 0), some (.int x1), none, none, none, none], [.long y1])) (M1 := (H, z)) (fun _ => ev_callV (x := (.invokevirtual 197, 3, 15, 1, 511, .null)) (as := [.ref 1, .int (0 : Int32), .int x1]) (rest := []) rfl rfl u_8 (C_X1_sumOf (S := S) (d := d + 1) (z := z) (x2 := (0 : Int32)) (x3 := x1) u_8 u_1 u_2 hy1) rfl) ?_
    refine go_step (fun _ => ev_run 2 (F' := (15, [some (.ref 0), some (.int x1), some (.long y1), none, none, none], [.ref 0])) rfl) ?_
    refine go_step (fun _ => ev_getf rfl u_0 rfl) ?_
    refine go_step (fun _ => ev_run 1 (F' := (19, [some (.ref 0), some (.int x1), some (.long y1), none, none, none], [.ref 0, .ref 8])) rfl) ?_
    refine go_step (fun _ => ev_getf rfl u_0 rfl) ?_
    refine go_step (fun _ => ev_run 2 (F' := (24, [some (.ref 0), some (.int x1), some (.long y1), none, none, none], [.ref 0, .int x1, .ref 1, .ref 8])) rfl) ?_
    refine go_step (fun _ => ev_getf rfl u_0 rfl) ?_
    refine go_step (F1 := (30, [some (.ref 0), some (.int x1), some (.long y1), none, none, none], [.int (t_X5_size c1_1), .int x1, .ref 1, .ref 8])) (M1 := (H, z)) (fun _ => ev_callV (x := (.invokevirtual 109, 3, 53, 4, 396, .null)) (as := []) (rest := [.int x1, .ref 1, .ref 8]) rfl rfl u_1 (C_X5_size (S := S) (d := d + 3) (z := z) u_1) rfl) ?_
    obtain ⟨y2, hy2, h⟩ := okb h
    refine go_step (F1 := (33, [some (.ref 0), some (.int x1), some (.long y1), none, none, none], [.long y2])) (M1 := (H, z)) (fun _ => ev_callV (x := (.invokevirtual 197, 3, 15, 1, 511, .null)) (as := [.ref 1, .int x1, .int (t_X5_size c1_1)]) (rest := []) rfl rfl u_8 (C_X1_sumOf (S := S) (d := d + 1) (z := z) (x2 := x1) (x3 := (t_X5_size c1_1)) u_8 u_1 u_2 hy2) rfl) ?_
    refine go_step (fun _ => ev_run 2 (F' := (36, [some (.ref 0), some (.int x1), some (.long y1), none, some (.long y2), none], [.ref 0])) rfl) ?_
    refine go_step (fun _ => ev_getf rfl u_0 rfl) ?_
    refine go_step (fun _ => ev_run 3 (F' := (43, [some (.ref 0), some (.int x1), some (.long y1), none, some (.long y2), none], [.ref 0, .long y2, .long y1, .ref 8])) rfl) ?_
    refine go_step (fun _ => ev_getf rfl u_0 rfl) ?_
    refine go_step (F1 := (49, [some (.ref 0), some (.int x1), some (.long y1), none, some (.long y2), none], [.int (t_X5_size c1_1), .long y2, .long y1, .ref 8])) (M1 := (H, z)) (fun _ => ev_callV (x := (.invokevirtual 109, 3, 53, 4, 396, .null)) (as := []) (rest := [.long y2, .long y1, .ref 8]) rfl rfl u_1 (C_X5_size (S := S) (d := d + 3) (z := z) u_1) rfl) ?_
    refine go_step (fun _ => ev_run 2 (F' := (51, [some (.ref 0), some (.int x1), some (.long y1), none, some (.long y2), none], [.int ((t_X5_size c1_1) - x1), .long y2, .long y1, .ref 8])) rfl) ?_
    obtain ⟨y3, hy3, h⟩ := okb h
    refine go_step (F1 := (54, [some (.ref 0), some (.int x1), some (.long y1), none, some (.long y2), none], [.long y3])) (M1 := (H, z)) (fun _ => ev_callV (x := (.invokevirtual 439, 3, 16, 1, 544, .null)) (as := [.long y1, .long y2, .int ((t_X5_size c1_1) - x1)]) (rest := []) rfl rfl u_8 (C_X1_sumOfBoth (S := S) (d := d) (z := z) (x1 := y1) (x3 := y2) (x5 := ((t_X5_size c1_1) - x1)) u_8 hy3) rfl) ?_
    cases h
    exact Or.inr ⟨_, ev_ret rfl rfl rfl rfl, rfl⟩
  obtain ⟨_, hE, rfl⟩ := go_end G
  exact hE
def q_X11_joined (x1 : Int32) (c1_1 : Int32) (c8_0 : Int32) (c8_1 : Int32) (c8_2 : Int32) (c8_3 : Int32) (c8_4 : Int32) (c8_5 : Int32) (a2 : Nat → Int32) : Option ((Nat ⊕ Int64) × Unit) := (xbnd (q_X11_requirePlaceOrEnd x1 c1_1) (fun e2 y1 => (some (Sum.inl e2, ()))) (fun v3 y4 => ((q_X11_sumByJoining x1 c8_0 c8_1 c8_2 c8_3 c8_4 c8_5 a2 c1_1).bind (fun y5 => (some (Sum.inr y5, ()))))))
theorem C_X11_joined {S : Nat × (Nat → Int32)} {d : Nat} {H : List xE} {z : Bool × Nat × Nat} {c1_1 : Int32} {c8_0 : Int32} {c8_1 : Int32} {c8_2 : Int32} {c8_3 : Int32} {c8_4 : Int32} {c8_5 : Int32} {a2 : Nat → Int32} {x1 : Int32} (u_1 : H[1]? = some (.inr (4, [.ref 2, .int c1_1]))) (u_0 : H[0]? = some (oO)) (u_8 : H[8]? = some (.inr (1, [.int c8_0, .int c8_1, .int c8_2, .int c8_3, .int c8_4, .int c8_5]))) (u_2 : H[2]? = some (.inl (0, 64, .inl a2))) {x : ((Nat ⊕ Int64) × Unit)} (h : q_X11_joined x1 c1_1 c8_0 c8_1 c8_2 c8_3 c8_4 c8_5 a2 = some x) : Cm S (d + 5) 107 [.ref 0, .int x1] (H, z) (oL x.1, (H, oZ x.1 z)) := by
  have G : Go S (d + 5) 107 (0, [some (.ref 0), some (.int x1)], []) (H, z) (fun _ _ => False) (fun r => r = (oL x.1, (H, oZ x.1 z))) := by
    unfold q_X11_joined at h
    refine go_step (fun _ => ev_run 2 (F' := (2, [some (.ref 0), some (.int x1)], [.int x1, .ref 0])) rfl) ?_
    rcases okx h with ⟨e2, y1, hy1, h⟩ | ⟨v3, y4, hy4, h⟩
    · skip
      cases h
      exact Or.inr ⟨_, ev_callVX (x := (.invokevirtual 143, 3, 147, 10, 677, .null)) (as := [.int x1]) (rest := []) rfl rfl u_0 rfl (C_X11_requirePlaceOrEnd (S := S) (d := d + 3) (z := z) (x1 := x1) u_0 u_1 hy1) rfl, rfl⟩
    · skip
      refine go_step (F1 := (5, [some (.ref 0), some (.int x1)], [])) (M1 := (H, z)) (fun _ => ev_callV (x := (.invokevirtual 143, 3, 147, 10, 677, .null)) (as := [.int x1]) (rest := []) rfl rfl u_0 (C_X11_requirePlaceOrEnd (S := S) (d := d + 3) (z := z) (x1 := x1) u_0 u_1 hy4) rfl) ?_
      refine go_step (fun _ => ev_run 2 (F' := (7, [some (.ref 0), some (.int x1)], [.int x1, .ref 0])) rfl) ?_
      obtain ⟨y5, hy5, h⟩ := okb h
      refine go_step (F1 := (10, [some (.ref 0), some (.int x1)], [.long y5])) (M1 := (H, z)) (fun _ => ev_callV (x := (.invokevirtual 198, 3, 139, 10, 540, .null)) (as := [.int x1]) (rest := []) rfl rfl u_0 (C_X11_sumByJoining (S := S) (d := d) (z := z) (x1 := x1) u_0 u_8 u_2 u_1 hy5) rfl) ?_
      cases h
      exact Or.inr ⟨_, ev_ret rfl rfl rfl rfl, rfl⟩
  obtain ⟨_, hE, rfl⟩ := go_end G
  exact hE
def q_X11_changed (x1 : Int32) (x2 : Int32) (c1_1 : Int32) (c8_0 : Int32) (c8_1 : Int32) (c8_2 : Int32) (c8_3 : Int32) (c8_4 : Int32) (c8_5 : Int32) (a2 : Nat → Int32) : Option ((Nat ⊕ Int64) × Unit) := (xbnd (q_X11_requirePlace x1 c1_1) (fun e2 y1 => (some (Sum.inl e2, ()))) (fun v3 y4 => (xbnd (q_X11_requireByte x2) (fun e6 y5 => (some (Sum.inl e6, ()))) (fun v7 y8 => ((q_X1_sumOf (0 : Int32) (t_X5_size c1_1) c8_0 c8_1 c8_2 c8_3 c8_4 c8_5 a2).bind (fun y9 => ((q_X1_sumAfterChange y9 (t_X5_at x1 64 a2) x2 (((t_X5_size c1_1) - (1 : Int32)) - x1) c8_0 c8_1 c8_3 c8_4 c8_5).bind (fun y10 => (some (Sum.inr y10, ()))))))))))
theorem C_X11_changed {S : Nat × (Nat → Int32)} {d : Nat} {H : List xE} {z : Bool × Nat × Nat} {c1_1 : Int32} {c8_0 : Int32} {c8_1 : Int32} {c8_2 : Int32} {c8_3 : Int32} {c8_4 : Int32} {c8_5 : Int32} {a2 : Nat → Int32} {x1 : Int32} {x2 : Int32} (u_1 : H[1]? = some (.inr (4, [.ref 2, .int c1_1]))) (u_0 : H[0]? = some (oO)) (u_8 : H[8]? = some (.inr (1, [.int c8_0, .int c8_1, .int c8_2, .int c8_3, .int c8_4, .int c8_5]))) (u_2 : H[2]? = some (.inl (0, 64, .inl a2))) {x : ((Nat ⊕ Int64) × Unit)} (h : q_X11_changed x1 x2 c1_1 c8_0 c8_1 c8_2 c8_3 c8_4 c8_5 a2 = some x) : Cm S (d + 4) 108 [.ref 0, .int x1, .int x2] (H, z) (oL x.1, (H, oZ x.1 z)) := by
  have G : Go S (d + 4) 108 (0, [some (.ref 0), some (.int x1), some (.int x2), none, none], []) (H, z) (fun _ _ => False) (fun r => r = (oL x.1, (H, oZ x.1 z))) := by
    unfold q_X11_changed at h
    refine go_step (fun _ => ev_run 2 (F' := (2, [some (.ref 0), some (.int x1), some (.int x2), none, none], [.int x1, .ref 0])) rfl) ?_
    rcases okx h with ⟨e2, y1, hy1, h⟩ | ⟨v3, y4, hy4, h⟩
    · skip
      cases h
      exact Or.inr ⟨_, ev_callVX (x := (.invokevirtual 129, 3, 146, 10, 686, .null)) (as := [.int x1]) (rest := []) rfl rfl u_0 rfl (C_X11_requirePlace (S := S) (d := d + 2) (z := z) (x1 := x1) u_0 u_1 hy1) rfl, rfl⟩
    · skip
      refine go_step (F1 := (5, [some (.ref 0), some (.int x1), some (.int x2), none, none], [])) (M1 := (H, z)) (fun _ => ev_callV (x := (.invokevirtual 129, 3, 146, 10, 686, .null)) (as := [.int x1]) (rest := []) rfl rfl u_0 (C_X11_requirePlace (S := S) (d := d + 2) (z := z) (x1 := x1) u_0 u_1 hy4) rfl) ?_
      refine go_step (fun _ => ev_run 1 (F' := (6, [some (.ref 0), some (.int x1), some (.int x2), none, none], [.int x2])) rfl) ?_
      rcases okx h with ⟨e6, y5, hy5, h⟩ | ⟨v7, y8, hy8, h⟩
      · skip
        cases h
        exact Or.inr ⟨_, ev_callX (x := (.invokestatic 136, 3, 152, 10, 694, .null)) (as := [.int x2]) (rest := []) rfl rfl rfl (C_X11_requireByte (S := S) (d := d + 3) (z := z) (x0 := x2) hy5) rfl, rfl⟩
      · skip
        refine go_step (F1 := (9, [some (.ref 0), some (.int x1), some (.int x2), none, none], [])) (M1 := (H, z)) (fun _ => ev_call (x := (.invokestatic 136, 3, 152, 10, 694, .null)) (as := [.int x2]) (rest := []) rfl rfl (C_X11_requireByte (S := S) (d := d + 3) (z := z) (x0 := x2) hy8) rfl) ?_
        refine go_step (fun _ => ev_run 1 (F' := (10, [some (.ref 0), some (.int x1), some (.int x2), none, none], [.ref 0])) rfl) ?_
        refine go_step (fun _ => ev_getf rfl u_0 rfl) ?_
        refine go_step (fun _ => ev_run 1 (F' := (14, [some (.ref 0), some (.int x1), some (.int x2), none, none], [.ref 0, .ref 8])) rfl) ?_
        refine go_step (fun _ => ev_getf rfl u_0 rfl) ?_
        refine go_step (fun _ => ev_run 2 (F' := (19, [some (.ref 0), some (.int x1), some (.int x2), none, none], [.ref 0, .int (0 : Int32), .ref 1, .ref 8])) rfl) ?_
        refine go_step (fun _ => ev_getf rfl u_0 rfl) ?_
        refine go_step (F1 := (25, [some (.ref 0), some (.int x1), some (.int x2), none, none], [.int (t_X5_size c1_1), .int (0 : Int32), .ref 1, .ref 8])) (M1 := (H, z)) (fun _ => ev_callV (x := (.invokevirtual 109, 3, 53, 4, 396, .null)) (as := []) (rest := [.int (0 : Int32), .ref 1, .ref 8]) rfl rfl u_1 (C_X5_size (S := S) (d := d + 3) (z := z) u_1) rfl) ?_
        obtain ⟨y9, hy9, h⟩ := okb h
        refine go_step (F1 := (28, [some (.ref 0), some (.int x1), some (.int x2), none, none], [.long y9])) (M1 := (H, z)) (fun _ => ev_callV (x := (.invokevirtual 197, 3, 15, 1, 511, .null)) (as := [.ref 1, .int (0 : Int32), .int (t_X5_size c1_1)]) (rest := []) rfl rfl u_8 (C_X1_sumOf (S := S) (d := d + 1) (z := z) (x2 := (0 : Int32)) (x3 := (t_X5_size c1_1)) u_8 u_1 u_2 hy9) rfl) ?_
        refine go_step (fun _ => ev_run 2 (F' := (30, [some (.ref 0), some (.int x1), some (.int x2), some (.long y9), none], [.ref 0])) rfl) ?_
        refine go_step (fun _ => ev_getf rfl u_0 rfl) ?_
        refine go_step (fun _ => ev_run 2 (F' := (35, [some (.ref 0), some (.int x1), some (.int x2), some (.long y9), none], [.ref 0, .long y9, .ref 8])) rfl) ?_
        refine go_step (fun _ => ev_getf rfl u_0 rfl) ?_
        refine go_step (fun _ => ev_run 1 (F' := (39, [some (.ref 0), some (.int x1), some (.int x2), some (.long y9), none], [.int x1, .ref 1, .long y9, .ref 8])) rfl) ?_
        refine go_step (F1 := (42, [some (.ref 0), some (.int x1), some (.int x2), some (.long y9), none], [.int (t_X5_at x1 64 a2), .long y9, .ref 8])) (M1 := (H, z)) (fun _ => ev_callV (x := (.invokevirtual 132, 3, 55, 4, 572, .null)) (as := [.int x1]) (rest := [.long y9, .ref 8]) rfl rfl u_1 (C_X5_at (S := S) (d := d + 3) (z := z) (x1 := x1) u_1 u_2 (by decide)) rfl) ?_
        refine go_step (fun _ => ev_run 2 (F' := (44, [some (.ref 0), some (.int x1), some (.int x2), some (.long y9), none], [.ref 0, .int x2, .int (t_X5_at x1 64 a2), .long y9, .ref 8])) rfl) ?_
        refine go_step (fun _ => ev_getf rfl u_0 rfl) ?_
        refine go_step (F1 := (50, [some (.ref 0), some (.int x1), some (.int x2), some (.long y9), none], [.int (t_X5_size c1_1), .int x2, .int (t_X5_at x1 64 a2), .long y9, .ref 8])) (M1 := (H, z)) (fun _ => ev_callV (x := (.invokevirtual 109, 3, 53, 4, 396, .null)) (as := []) (rest := [.int x2, .int (t_X5_at x1 64 a2), .long y9, .ref 8]) rfl rfl u_1 (C_X5_size (S := S) (d := d + 3) (z := z) u_1) rfl) ?_
        refine go_step (fun _ => ev_run 4 (F' := (54, [some (.ref 0), some (.int x1), some (.int x2), some (.long y9), none], [.int (((t_X5_size c1_1) - (1 : Int32)) - x1), .int x2, .int (t_X5_at x1 64 a2), .long y9, .ref 8])) rfl) ?_
        obtain ⟨y10, hy10, h⟩ := okb h
        refine go_step (F1 := (57, [some (.ref 0), some (.int x1), some (.int x2), some (.long y9), none], [.long y10])) (M1 := (H, z)) (fun _ => ev_callV (x := (.invokevirtual 202, 3, 17, 1, 698, .null)) (as := [.long y9, .int (t_X5_at x1 64 a2), .int x2, .int (((t_X5_size c1_1) - (1 : Int32)) - x1)]) (rest := []) rfl rfl u_8 (C_X1_sumAfterChange (S := S) (d := d) (z := z) (x1 := y9) (x3 := (t_X5_at x1 64 a2)) (x4 := x2) (x5 := (((t_X5_size c1_1) - (1 : Int32)) - x1)) u_8 hy10) rfl) ?_
        cases h
        exact Or.inr ⟨_, ev_ret rfl rfl rfl rfl, rfl⟩
  obtain ⟨_, hE, rfl⟩ := go_end G
  exact hE
def q_X11_zeros (x1 : Int32) (c1_1 : Int32) (c8_0 : Int32) (c8_1 : Int32) (c8_2 : Int32) (c8_3 : Int32) (c8_4 : Int32) (c8_5 : Int32) (a2 : Nat → Int32) : Option ((Nat ⊕ Int64) × Unit) := (if x1 < (0 : Int32) then (some (Sum.inl 0, ())) else (if x1 ≤ (1000000 : Int32) then ((q_X1_sumOf (0 : Int32) (t_X5_size c1_1) c8_0 c8_1 c8_2 c8_3 c8_4 c8_5 a2).bind (fun y1 => ((q_X1_sumAfterZeros y1 x1 c8_0 c8_1 c8_3 c8_5).bind (fun y2 => (some (Sum.inr y2, ())))))) else (some (Sum.inl 0, ()))))
theorem C_X11_zeros {S : Nat × (Nat → Int32)} {d : Nat} {H : List xE} {z : Bool × Nat × Nat} {c1_1 : Int32} {c8_0 : Int32} {c8_1 : Int32} {c8_2 : Int32} {c8_3 : Int32} {c8_4 : Int32} {c8_5 : Int32} {a2 : Nat → Int32} {x1 : Int32} (u_0 : H[0]? = some (oO)) (u_1 : H[1]? = some (.inr (4, [.ref 2, .int c1_1]))) (u_8 : H[8]? = some (.inr (1, [.int c8_0, .int c8_1, .int c8_2, .int c8_3, .int c8_4, .int c8_5]))) (u_2 : H[2]? = some (.inl (0, 64, .inl a2))) {x : ((Nat ⊕ Int64) × Unit)} (h : q_X11_zeros x1 c1_1 c8_0 c8_1 c8_2 c8_3 c8_4 c8_5 a2 = some x) : Cm S (d + 4) 109 [.ref 0, .int x1] (H, z) (oL x.1, (H, oZ x.1 z)) := by
  have G : Go S (d + 4) 109 (0, [some (.ref 0), some (.int x1)], []) (H, z) (fun _ _ => False) (fun r => r = (oL x.1, (H, oZ x.1 z))) := by
    unfold q_X11_zeros at h
    refine go_step (fun _ => ev_run 1 (F' := (1, [some (.ref 0), some (.int x1)], [.int x1])) rfl) ?_
    refine go_if rfl (fun (b1 : x1 < (0 : Int32)) => ?_) (fun (b1 : ¬ (x1 < (0 : Int32))) => ?_)
    · have h := (if_pos b1).symm.trans h
      cases h
      exact Or.inr ⟨_, ev_throw rfl rfl rfl rfl, rfl⟩
    · have h := (if_neg b1).symm.trans h
      refine go_step (fun _ => ev_run 2 (F' := (7, [some (.ref 0), some (.int x1)], [.int (1000000 : Int32), .int x1])) rfl) ?_
      refine go_icmp rfl (fun (b7 : x1 ≤ (1000000 : Int32)) => ?_) (fun (b7 : ¬ (x1 ≤ (1000000 : Int32))) => ?_)
      · have h := (if_pos b7).symm.trans h
        refine go_step (fun _ => ev_run 1 (F' := (21, [some (.ref 0), some (.int x1)], [.ref 0])) rfl) ?_
        refine go_step (fun _ => ev_getf rfl u_0 rfl) ?_
        refine go_step (fun _ => ev_run 1 (F' := (25, [some (.ref 0), some (.int x1)], [.ref 0, .ref 8])) rfl) ?_
        refine go_step (fun _ => ev_getf rfl u_0 rfl) ?_
        refine go_step (fun _ => ev_run 1 (F' := (29, [some (.ref 0), some (.int x1)], [.ref 0, .ref 8, .ref 8])) rfl) ?_
        refine go_step (fun _ => ev_getf rfl u_0 rfl) ?_
        refine go_step (fun _ => ev_run 2 (F' := (34, [some (.ref 0), some (.int x1)], [.ref 0, .int (0 : Int32), .ref 1, .ref 8, .ref 8])) rfl) ?_
        refine go_step (fun _ => ev_getf rfl u_0 rfl) ?_
        refine go_step (F1 := (40, [some (.ref 0), some (.int x1)], [.int (t_X5_size c1_1), .int (0 : Int32), .ref 1, .ref 8, .ref 8])) (M1 := (H, z)) (fun _ => ev_callV (x := (.invokevirtual 109, 3, 53, 4, 396, .null)) (as := []) (rest := [.int (0 : Int32), .ref 1, .ref 8, .ref 8]) rfl rfl u_1 (C_X5_size (S := S) (d := d + 3) (z := z) u_1) rfl) ?_
        obtain ⟨y1, hy1, h⟩ := okb h
        refine go_step (F1 := (43, [some (.ref 0), some (.int x1)], [.long y1, .ref 8])) (M1 := (H, z)) (fun _ => ev_callV (x := (.invokevirtual 197, 3, 15, 1, 511, .null)) (as := [.ref 1, .int (0 : Int32), .int (t_X5_size c1_1)]) (rest := [.ref 8]) rfl rfl u_8 (C_X1_sumOf (S := S) (d := d + 1) (z := z) (x2 := (0 : Int32)) (x3 := (t_X5_size c1_1)) u_8 u_1 u_2 hy1) rfl) ?_
        refine go_step (fun _ => ev_run 1 (F' := (44, [some (.ref 0), some (.int x1)], [.int x1, .long y1, .ref 8])) rfl) ?_
        obtain ⟨y2, hy2, h⟩ := okb h
        refine go_step (F1 := (47, [some (.ref 0), some (.int x1)], [.long y2])) (M1 := (H, z)) (fun _ => ev_callV (x := (.invokevirtual 209, 3, 18, 1, 708, .null)) (as := [.long y1, .int x1]) (rest := []) rfl rfl u_8 (C_X1_sumAfterZeros (S := S) (d := d) (z := z) (x1 := y1) (x3 := x1) u_8 hy2) rfl) ?_
        cases h
        exact Or.inr ⟨_, ev_ret rfl rfl rfl rfl, rfl⟩
      · have h := (if_neg b7).symm.trans h
        cases h
        exact Or.inr ⟨_, ev_throw rfl rfl rfl rfl, rfl⟩
  obtain ⟨_, hE, rfl⟩ := go_end G
  exact hE
def q_X11_forge_L76 (x1 : Int32) (x4 : Int32) : Nat → Int32 → (Nat → Int32) → Option (Int32 × (Nat → Int32))
  | 0, _, _ => none
  | n + 1, l5, a2 => (if (4 : Int32) ≤ l5 then (some (l5, a2)) else (q_X11_forge_L76 x1 x4 n (l5 + (1 : Int32)) (t_X5_change (x1 + l5) (t_X11_byteOfWord x4 l5) 64 a2)))
def q_X11_forge (x1 : Int32) (x2 : Int64) (c1_1 : Int32) (a2 : Nat → Int32) (c3_1 : Int32) (c3_2 : Int32) (c4_0 : Int32) (a6 : Nat → Int32) (a5 : Nat → Int32) : Option ((Nat ⊕ Int32) × ((Nat → Int32) × Int32 × Int32 × (Nat → Int32) × (Nat → Int32))) := (if x1 < (0 : Int32) then (some (Sum.inl 2, (a2, c3_1, c3_2, a6, a5))) else (if x1 ≤ ((t_X5_size c1_1) - (4 : Int32)) then (if (lg_cmp x2 (0 : Int64)) < (0 : Int32) then (some (Sum.inl 0, (a2, c3_1, c3_2, a6, a5))) else (if (lg_cmp x2 (4294967295 : Int64)) ≤ (0 : Int32) then ((q_X2_forgedWord x1 x2 a2 c1_1).bind (fun y1 => ((q_X3_keep c3_1 c3_2 c4_0 c1_1 a6 a5 a2).bind (fun y2 => ((q_X11_forge_L76 x1 y1 10000 (0 : Int32) a2).bind (fun y4 => (some (Sum.inr y1, (y4.2, y2.1, y2.2.1, y2.2.2.1, y2.2.2.2))))))))) else (some (Sum.inl 0, (a2, c3_1, c3_2, a6, a5))))) else (some (Sum.inl 2, (a2, c3_1, c3_2, a6, a5)))))
theorem L_X11_forge_L76 {S : Nat × (Nat → Int32)} {d : Nat} {z : Bool × Nat × Nat} {c1_1 : Int32} {c3_1 : Int32} {c3_2 : Int32} {c4_0 : Int32} {a6 : Nat → Int32} {a5 : Nat → Int32} {x1 : Int32} {x4 : Int32} {H0 : List xE} (u_0 : H0[0]? = some (oO)) (u_1 : H0[1]? = some (.inr (4, [.ref 2, .int c1_1]))) (u_3 : H0[3]? = some (.inr (2, [.ref 4, .int c3_1, .int c3_2]))) (u_4 : H0[4]? = some (.inr (7, [.int c4_0, .ref 5, .ref 6]))) (u_6 : H0[6]? = some (.inl (0, 10, .inl a6))) (u_5 : H0[5]? = some (.inl (0, 640, .inl a5))) : ∀ (n : Nat) (l5 : Int32) (a2 : Nat → Int32) (H : List xE), xfr [2] H0 H → H[2]? = some (.inl (0, 64, .inl a2)) → ∀ x, q_X11_forge_L76 x1 x4 n l5 a2 = some x → Go S (d + 3) 110 (76, [some (.ref 0), some (.int x1), none, none, some (.int x4), some (.int l5)], []) (H, z) (fun F' M' => ∃ H' : List xE, F' = (106, [none, none, none, none, some (.int x4), none], []) ∧ M' = (H', z) ∧ H'[2]? = some (.inl (0, 64, .inl x.2)) ∧ xfr [2] H0 H') (fun _ => False) := by
  intro n
  induction n with
  | zero =>
    intro l5 a2 H fr e_2 x h
    unfold q_X11_forge_L76 at h
    cases h
  | succ n ih =>
    intro l5 a2 H fr e_2 x h
    unfold q_X11_forge_L76 at h
    refine go_step (fun _ => ev_run 2 (F' := (79, [some (.ref 0), some (.int x1), none, none, some (.int x4), some (.int l5)], [.int (4 : Int32), .int l5])) rfl) ?_
    refine go_icmp rfl (fun (b79 : (4 : Int32) ≤ l5) => ?_) (fun (b79 : ¬ ((4 : Int32) ≤ l5)) => ?_)
    · have h := (if_pos b79).symm.trans h
      refine go_step (fun _ => ev_forget (L' := [none, none, none, none, some (.int x4), none]) (show xleP _ [some (.ref 0), some (.int x1), none, none, some (.int x4), some (.int l5)] from ⟨rfl, trivial⟩) rfl) ?_
      cases h
      exact Or.inl ⟨_, _, fun r hr => hr, H, rfl, rfl, e_2, fr⟩
    · have h := (if_neg b79).symm.trans h
      refine go_step (fun _ => ev_run 1 (F' := (83, [some (.ref 0), some (.int x1), none, none, some (.int x4), some (.int l5)], [.ref 0])) rfl) ?_
      refine go_step (fun _ => ev_getf rfl ((fr 0 rfl).trans u_0) rfl) ?_
      refine go_step (fun _ => ev_run 5 (F' := (94, [some (.ref 0), some (.int x1), none, none, some (.int x4), some (.int l5)], [.int l5, .int x4, .int (x1 + l5), .ref 1])) rfl) ?_
      refine go_step (F1 := (97, [some (.ref 0), some (.int x1), none, none, some (.int x4), some (.int l5)], [.int (t_X11_byteOfWord x4 l5), .int (x1 + l5), .ref 1])) (M1 := (H, z)) (fun _ => ev_call (x := (.invokestatic 122, 3, 156, 10, 433, .null)) (as := [.int x4, .int l5]) (rest := [.int (x1 + l5), .ref 1]) rfl rfl (C_X11_byteOfWord (S := S) (d := d + 2) (z := z) (x0 := x4) (x1 := l5)) rfl) ?_
      obtain ⟨H1, hCH1, eH1_2, fH1⟩ := C_X5_change (S := S) (d := d + 2) (z := z) (x1 := (x1 + l5)) (x2 := (t_X11_byteOfWord x4 l5)) ((fr 1 rfl).trans u_1) e_2 (by decide)
      refine go_step (F1 := (100, [some (.ref 0), some (.int x1), none, none, some (.int x4), some (.int l5)], [])) (M1 := (H1, z)) (fun _ => ev_callV (x := (.invokevirtual 139, 3, 56, 4, 748, .null)) (as := [.int (x1 + l5), .int (t_X11_byteOfWord x4 l5)]) (rest := []) rfl rfl ((fr 1 rfl).trans u_1) hCH1 rfl) ?_
      refine go_step (fun _ => ev_run 2 (F' := (76, [some (.ref 0), some (.int x1), none, none, some (.int x4), some (.int (l5 + (1 : Int32)))], [])) rfl) ?_
      exact ih (l5 + (1 : Int32)) (t_X5_change (x1 + l5) (t_X11_byteOfWord x4 l5) 64 a2) H1 (xfr_t fr rfl fH1) eH1_2 _ h
theorem C_X11_forge {S : Nat × (Nat → Int32)} {d : Nat} {H : List xE} {z : Bool × Nat × Nat} {c1_1 : Int32} {a2 : Nat → Int32} {c3_1 : Int32} {c3_2 : Int32} {c4_0 : Int32} {a6 : Nat → Int32} {a5 : Nat → Int32} {x1 : Int32} {x2 : Int64} (u_0 : H[0]? = some (oO)) (u_1 : H[1]? = some (.inr (4, [.ref 2, .int c1_1]))) (u_2 : H[2]? = some (.inl (0, 64, .inl a2))) (u_3 : H[3]? = some (.inr (2, [.ref 4, .int c3_1, .int c3_2]))) (u_4 : H[4]? = some (.inr (7, [.int c4_0, .ref 5, .ref 6]))) (u_6 : H[6]? = some (.inl (0, 10, .inl a6))) (u_5 : H[5]? = some (.inl (0, 640, .inl a5))) {x : ((Nat ⊕ Int32) × ((Nat → Int32) × Int32 × Int32 × (Nat → Int32) × (Nat → Int32)))} (h : q_X11_forge x1 x2 c1_1 a2 c3_1 c3_2 c4_0 a6 a5 = some x) : ∃ H' : List xE, Cm S (d + 3) 110 [.ref 0, .int x1, .long x2] (H, z) (oI x.1, (H', oZ x.1 z)) ∧ H'[2]? = some (.inl (0, 64, .inl x.2.1)) ∧ H'[3]? = some (.inr (2, [.ref 4, .int x.2.2.1, .int x.2.2.2.1])) ∧ H'[6]? = some (.inl (0, 10, .inl x.2.2.2.2.1)) ∧ H'[5]? = some (.inl (0, 640, .inl x.2.2.2.2.2)) ∧ xfr [2, 3, 6, 5] H H' := by
  have G : Go S (d + 3) 110 (0, [some (.ref 0), some (.int x1), some (.long x2), none, none, none], []) (H, z) (fun _ _ => False) (fun r => ∃ H' : List xE, r = (oI x.1, (H', oZ x.1 z)) ∧ H'[2]? = some (.inl (0, 64, .inl x.2.1)) ∧ H'[3]? = some (.inr (2, [.ref 4, .int x.2.2.1, .int x.2.2.2.1])) ∧ H'[6]? = some (.inl (0, 10, .inl x.2.2.2.2.1)) ∧ H'[5]? = some (.inl (0, 640, .inl x.2.2.2.2.2)) ∧ xfr [2, 3, 6, 5] H H') := by
    unfold q_X11_forge at h
    refine go_step (fun _ => ev_run 1 (F' := (1, [some (.ref 0), some (.int x1), some (.long x2), none, none, none], [.int x1])) rfl) ?_
    refine go_if rfl (fun (b1 : x1 < (0 : Int32)) => ?_) (fun (b1 : ¬ (x1 < (0 : Int32))) => ?_)
    · have h := (if_pos b1).symm.trans h
      cases h
      exact Or.inr ⟨_, ev_throw rfl rfl rfl rfl, H, rfl, u_2, u_3, u_6, u_5, xfr_refl⟩
    · have h := (if_neg b1).symm.trans h
      refine go_step (fun _ => ev_run 2 (F' := (6, [some (.ref 0), some (.int x1), some (.long x2), none, none, none], [.ref 0, .int x1])) rfl) ?_
      refine go_step (fun _ => ev_getf rfl u_0 rfl) ?_
      refine go_step (F1 := (12, [some (.ref 0), some (.int x1), some (.long x2), none, none, none], [.int (t_X5_size c1_1), .int x1])) (M1 := (H, z)) (fun _ => ev_callV (x := (.invokevirtual 109, 3, 53, 4, 396, .null)) (as := []) (rest := [.int x1]) rfl rfl u_1 (C_X5_size (S := S) (d := d + 2) (z := z) u_1) rfl) ?_
      refine go_step (fun _ => ev_run 2 (F' := (14, [some (.ref 0), some (.int x1), some (.long x2), none, none, none], [.int ((t_X5_size c1_1) - (4 : Int32)), .int x1])) rfl) ?_
      refine go_icmp rfl (fun (b14 : x1 ≤ ((t_X5_size c1_1) - (4 : Int32))) => ?_) (fun (b14 : ¬ (x1 ≤ ((t_X5_size c1_1) - (4 : Int32)))) => ?_)
      · have h := (if_pos b14).symm.trans h
        refine go_step (fun _ => ev_run 3 (F' := (30, [some (.ref 0), some (.int x1), some (.long x2), none, none, none], [.int (lg_cmp x2 (0 : Int64))])) rfl) ?_
        refine go_if rfl (fun (b30 : (lg_cmp x2 (0 : Int64)) < (0 : Int32)) => ?_) (fun (b30 : ¬ ((lg_cmp x2 (0 : Int64)) < (0 : Int32))) => ?_)
        · have h := (if_pos b30).symm.trans h
          cases h
          exact Or.inr ⟨_, ev_throw rfl rfl rfl rfl, H, rfl, u_2, u_3, u_6, u_5, xfr_refl⟩
        · have h := (if_neg b30).symm.trans h
          refine go_step (fun _ => ev_run 3 (F' := (38, [some (.ref 0), some (.int x1), some (.long x2), none, none, none], [.int (lg_cmp x2 (4294967295 : Int64))])) rfl) ?_
          refine go_if rfl (fun (b38 : (lg_cmp x2 (4294967295 : Int64)) ≤ (0 : Int32)) => ?_) (fun (b38 : ¬ ((lg_cmp x2 (4294967295 : Int64)) ≤ (0 : Int32))) => ?_)
          · have h := (if_pos b38).symm.trans h
            refine go_step (fun _ => ev_run 1 (F' := (52, [some (.ref 0), some (.int x1), some (.long x2), none, none, none], [.ref 0])) rfl) ?_
            refine go_step (fun _ => ev_getf rfl u_0 rfl) ?_
            refine go_step (fun _ => ev_run 2 (F' := (57, [some (.ref 0), some (.int x1), some (.long x2), none, none, none], [.long x2, .int x1, .ref 1])) rfl) ?_
            obtain ⟨y1, hy1, h⟩ := okb h
            refine go_step (F1 := (60, [some (.ref 0), some (.int x1), some (.long x2), none, none, none], [.int y1])) (M1 := (H, z)) (fun _ => ev_call (x := (.invokestatic 222, 3, 29, 0, 564, .null)) (as := [.ref 1, .int x1, .long x2]) (rest := []) rfl rfl (C_X2_forgedWord (S := S) (d := d) (z := z) (x1 := x1) (x2 := x2) u_2 u_1 hy1) rfl) ?_
            refine go_step (fun _ => ev_run 2 (F' := (63, [some (.ref 0), some (.int x1), some (.long x2), none, some (.int y1), none], [.ref 0])) rfl) ?_
            refine go_step (fun _ => ev_getf rfl u_0 rfl) ?_
            refine go_step (fun _ => ev_run 1 (F' := (67, [some (.ref 0), some (.int x1), some (.long x2), none, some (.int y1), none], [.ref 0, .ref 3])) rfl) ?_
            refine go_step (fun _ => ev_getf rfl u_0 rfl) ?_
            obtain ⟨y2, hy2, h⟩ := okb h
            obtain ⟨H3, hCH3, eH3_3, eH3_6, eH3_5, fH3⟩ := C_X3_keep (S := S) (d := d) (z := z) u_3 u_4 u_1 u_6 u_5 u_2 hy2
            refine go_step (F1 := (73, [some (.ref 0), some (.int x1), some (.long x2), none, some (.int y1), none], [])) (M1 := (H3, z)) (fun _ => ev_callV (x := (.invokevirtual 118, 3, 37, 2, 416, .null)) (as := [.ref 1]) (rest := []) rfl rfl u_3 hCH3 rfl) ?_
            refine go_step (fun _ => ev_run 2 (F' := (76, [some (.ref 0), some (.int x1), some (.long x2), none, some (.int y1), some (.int (0 : Int32))], [])) rfl) ?_
            refine go_step (fun _ => ev_forget (L' := [some (.ref 0), some (.int x1), none, none, some (.int y1), some (.int (0 : Int32))]) (show xleP _ [some (.ref 0), some (.int x1), some (.long x2), none, some (.int y1), some (.int (0 : Int32))] from ⟨rfl, ⟨rfl, ⟨rfl, ⟨rfl, trivial⟩⟩⟩⟩) rfl) ?_
            obtain ⟨y4, hy4, h⟩ := okb h
            obtain ⟨_, _, hr6, H5, rfl, rfl, eH5_2, fH5⟩ := go_nr (L_X11_forge_L76 (S := S) (d := d) (z := z) (x1 := x1) (x4 := y1) ((fH3 0 rfl).trans u_0) ((fH3 1 rfl).trans u_1) eH3_3 ((fH3 4 rfl).trans u_4) eH3_6 eH3_5 10000 (0 : Int32) a2 H3 xfr_refl ((fH3 2 rfl).trans u_2) _ hy4)
            refine go_step hr6 ?_
            refine go_step (fun _ => ev_run 1 (F' := (108, [none, none, none, none, some (.int y1), none], [.int y1])) rfl) ?_
            cases h
            exact Or.inr ⟨_, ev_ret rfl rfl rfl rfl, H5, rfl, eH5_2, ((fH5 3 rfl).trans eH3_3), ((fH5 6 rfl).trans eH3_6), ((fH5 5 rfl).trans eH3_5), (xfr_t (xfr_t xfr_refl rfl fH3) rfl fH5)⟩
          · have h := (if_neg b38).symm.trans h
            cases h
            exact Or.inr ⟨_, ev_throw rfl rfl rfl rfl, H, rfl, u_2, u_3, u_6, u_5, xfr_refl⟩
      · have h := (if_neg b14).symm.trans h
        cases h
        exact Or.inr ⟨_, ev_throw rfl rfl rfl rfl, H, rfl, u_2, u_3, u_6, u_5, xfr_refl⟩
  obtain ⟨_, hE, H', rfl, hrest⟩ := go_end G
  exact ⟨H', hE, hrest⟩
def t_X11_hasShelf (x1 : Int32) : Int32 := (if x1 < (0 : Int32) then (0 : Int32) else (if (nI 8) ≤ x1 then (0 : Int32) else (if (nI 8) ≤ x1 then (0 : Int32) else (1 : Int32))))
theorem C_X11_hasShelf {S : Nat × (Nat → Int32)} {d : Nat} {H : List xE} {z : Bool × Nat × Nat} {a10 : Nat → Int64} {a11 : Nat → Int64} {x1 : Int32} (u_0 : H[0]? = some (oO)) (u_10 : H[10]? = some (.inl (1, 8, .inr (.inl a10)))) (u_11 : H[11]? = some (.inl (1, 8, .inr (.inl a11)))) : Cm S d 141 [.ref 0, .int x1] (H, z) (.inr (some (.int (t_X11_hasShelf x1))), (H, z)) := by
  have G : ∀ x, t_X11_hasShelf x1 = x → Go S d 141 (0, [some (.ref 0), some (.int x1)], []) (H, z) (fun _ _ => False) (fun r => r = (.inr (some (.int x)), (H, z))) := by
    intro x h
    unfold t_X11_hasShelf at h
    refine go_step (fun _ => ev_run 1 (F' := (1, [some (.ref 0), some (.int x1)], [.int x1])) rfl) ?_
    refine go_if rfl (fun (b1 : x1 < (0 : Int32)) => ?_) (fun (b1 : ¬ (x1 < (0 : Int32))) => ?_)
    · have h := (if_pos b1).symm.trans h
      refine go_step (fun _ => ev_run 1 (F' := (27, [some (.ref 0), some (.int x1)], [.int (0 : Int32)])) rfl) ?_
      cases h
      exact Or.inr ⟨_, ev_ret rfl rfl rfl rfl, rfl⟩
    · have h := (if_neg b1).symm.trans h
      refine go_step (fun _ => ev_run 2 (F' := (6, [some (.ref 0), some (.int x1)], [.ref 0, .int x1])) rfl) ?_
      refine go_step (fun _ => ev_getf rfl u_0 rfl) ?_
      refine go_step (fun _ => ev_alen rfl u_10 rfl) ?_
      refine go_icmp rfl (fun (b10 : (nI 8) ≤ x1) => ?_) (fun (b10 : ¬ ((nI 8) ≤ x1)) => ?_)
      · have h := (if_pos b10).symm.trans h
        refine go_step (fun _ => ev_run 1 (F' := (27, [some (.ref 0), some (.int x1)], [.int (0 : Int32)])) rfl) ?_
        cases h
        exact Or.inr ⟨_, ev_ret rfl rfl rfl rfl, rfl⟩
      · have h := (if_neg b10).symm.trans h
        refine go_step (fun _ => ev_run 2 (F' := (15, [some (.ref 0), some (.int x1)], [.ref 0, .int x1])) rfl) ?_
        refine go_step (fun _ => ev_getf rfl u_0 rfl) ?_
        refine go_step (fun _ => ev_alen rfl u_11 rfl) ?_
        refine go_icmp rfl (fun (b19 : (nI 8) ≤ x1) => ?_) (fun (b19 : ¬ ((nI 8) ≤ x1)) => ?_)
        · have h := (if_pos b19).symm.trans h
          refine go_step (fun _ => ev_run 1 (F' := (27, [some (.ref 0), some (.int x1)], [.int (0 : Int32)])) rfl) ?_
          cases h
          exact Or.inr ⟨_, ev_ret rfl rfl rfl rfl, rfl⟩
        · have h := (if_neg b19).symm.trans h
          refine go_step (fun _ => ev_run 2 (F' := (27, [some (.ref 0), some (.int x1)], [.int (1 : Int32)])) rfl) ?_
          cases h
          exact Or.inr ⟨_, ev_ret rfl rfl rfl rfl, rfl⟩
  obtain ⟨_, hE, rfl⟩ := go_end (G _ rfl)
  exact hE
theorem b_X11_hasShelf (x1 : Int32) : t_X11_hasShelf x1 = 0 ∨ t_X11_hasShelf x1 = 1 := by
  unfold t_X11_hasShelf
  (repeat' split) <;> first | exact Or.inl rfl | exact Or.inr rfl | skip
def q_X11_requireShelf (x1 : Int32) : Option ((Nat ⊕ Unit) × Unit) := (if ¬ (t_X11_hasShelf x1) = (0 : Int32) then (some (Sum.inr (), ())) else (some (Sum.inl 2, ())))
theorem C_X11_requireShelf {S : Nat × (Nat → Int32)} {d : Nat} {H : List xE} {z : Bool × Nat × Nat} {a10 : Nat → Int64} {a11 : Nat → Int64} {x1 : Int32} (u_0 : H[0]? = some (oO)) (u_10 : H[10]? = some (.inl (1, 8, .inr (.inl a10)))) (u_11 : H[11]? = some (.inl (1, 8, .inr (.inl a11)))) {x : ((Nat ⊕ Unit) × Unit)} (h : q_X11_requireShelf x1 = some x) : Cm S (d + 1) 150 [.ref 0, .int x1] (H, z) (oU x.1, (H, oZ x.1 z)) := by
  have G : Go S (d + 1) 150 (0, [some (.ref 0), some (.int x1)], []) (H, z) (fun _ _ => False) (fun r => r = (oU x.1, (H, oZ x.1 z))) := by
    unfold q_X11_requireShelf at h
    refine go_step (fun _ => ev_run 2 (F' := (2, [some (.ref 0), some (.int x1)], [.int x1, .ref 0])) rfl) ?_
    refine go_step (F1 := (5, [some (.ref 0), some (.int x1)], [.int (t_X11_hasShelf x1)])) (M1 := (H, z)) (fun _ => ev_callV (x := (.invokevirtual 449, 3, 141, 10, 815, .null)) (as := [.int x1]) (rest := []) rfl rfl u_0 (C_X11_hasShelf (S := S) (d := d) (z := z) (x1 := x1) u_0 u_10 u_11) rfl) ?_
    refine go_if rfl (fun (b5 : ¬ (t_X11_hasShelf x1) = (0 : Int32)) => ?_) (fun (b5 : ¬ (¬ (t_X11_hasShelf x1) = (0 : Int32))) => ?_)
    · have h := (if_pos b5).symm.trans h
      cases h
      exact Or.inr ⟨_, ev_ret rfl rfl rfl rfl, rfl⟩
    · have h := (if_neg b5).symm.trans h
      cases h
      exact Or.inr ⟨_, ev_throw rfl rfl rfl rfl, rfl⟩
  obtain ⟨_, hE, rfl⟩ := go_end G
  exact hE
def q_X11_putOnShelf (x1 : Int32) (a10 : Nat → Int64) (a11 : Nat → Int64) (ch2_0 : Int64) (ch2_1 : Int64) : Option (Int32 × (Nat → Int64) × (Nat → Int64)) := (if (t_X11_hasShelf x1) = (0 : Int32) then ((q_X4_degree ch2_0 ch2_1).bind (fun y1 => (some (y1, a10, a11)))) else (if xin x1 8 = true then (if xin x1 8 = true then ((q_X4_degree ch2_0 ch2_1).bind (fun y4 => (some (y4, (vp_updL a10 x1.toNatClampNeg ch2_0), (vp_updL a11 x1.toNatClampNeg ch2_1))))) else none) else none))
theorem C_X11_putOnShelf {S : Nat × (Nat → Int32)} {d : Nat} {H : List xE} {z : Bool × Nat × Nat} {h2 : Nat} {a10 : Nat → Int64} {a11 : Nat → Int64} {ch2_0 : Int64} {ch2_1 : Int64} {x1 : Int32} (u_0 : H[0]? = some (oO)) (u_10 : H[10]? = some (.inl (1, 8, .inr (.inl a10)))) (u_11 : H[11]? = some (.inl (1, 8, .inr (.inl a11)))) (u_h2 : H[h2]? = some (.inr (3, [.long ch2_0, .long ch2_1]))) (ne_10_h2 : 10 ≠ h2) (ne_11_h2 : 11 ≠ h2) {x : (Int32 × (Nat → Int64) × (Nat → Int64))} (h : q_X11_putOnShelf x1 a10 a11 ch2_0 ch2_1 = some x) : ∃ H' : List xE, Cm S (d + 2) 142 [.ref 0, .int x1, .ref h2] (H, z) (.inr (some (.int x.1)), (H', z)) ∧ H'[10]? = some (.inl (1, 8, .inr (.inl x.2.1))) ∧ H'[11]? = some (.inl (1, 8, .inr (.inl x.2.2))) ∧ xfr [10, 11] H H' := by
  have G : Go S (d + 2) 142 (0, [some (.ref 0), some (.int x1), some (.ref h2)], []) (H, z) (fun _ _ => False) (fun r => ∃ H' : List xE, r = (.inr (some (.int x.1)), (H', z)) ∧ H'[10]? = some (.inl (1, 8, .inr (.inl x.2.1))) ∧ H'[11]? = some (.inl (1, 8, .inr (.inl x.2.2))) ∧ xfr [10, 11] H H') := by
    unfold q_X11_putOnShelf at h
    refine go_step (fun _ => ev_run 2 (F' := (2, [some (.ref 0), some (.int x1), some (.ref h2)], [.int x1, .ref 0])) rfl) ?_
    refine go_step (F1 := (5, [some (.ref 0), some (.int x1), some (.ref h2)], [.int (t_X11_hasShelf x1)])) (M1 := (H, z)) (fun _ => ev_callV (x := (.invokevirtual 449, 3, 141, 10, 815, .null)) (as := [.int x1]) (rest := []) rfl rfl u_0 (C_X11_hasShelf (S := S) (d := d + 1) (z := z) (x1 := x1) u_0 u_10 u_11) rfl) ?_
    refine go_if rfl (fun (b5 : (t_X11_hasShelf x1) = (0 : Int32)) => ?_) (fun (b5 : ¬ ((t_X11_hasShelf x1) = (0 : Int32))) => ?_)
    · have h := (if_pos b5).symm.trans h
      refine go_step (fun _ => ev_run 1 (F' := (29, [some (.ref 0), some (.int x1), some (.ref h2)], [.ref h2])) rfl) ?_
      obtain ⟨y1, hy1, h⟩ := okb h
      refine go_step (F1 := (32, [some (.ref 0), some (.int x1), some (.ref h2)], [.int y1])) (M1 := (H, z)) (fun _ => ev_callV (x := (.invokevirtual 253, 3, 43, 3, 828, .null)) (as := []) (rest := []) rfl rfl u_h2 (C_X4_degree (S := S) (d := d) (z := z) u_h2 hy1) rfl) ?_
      cases h
      exact Or.inr ⟨_, ev_ret rfl rfl rfl rfl, H, rfl, u_10, u_11, xfr_refl⟩
    · have h := (if_neg b5).symm.trans h
      refine go_step (fun _ => ev_run 1 (F' := (9, [some (.ref 0), some (.int x1), some (.ref h2)], [.ref 0])) rfl) ?_
      refine go_step (fun _ => ev_getf rfl u_0 rfl) ?_
      refine go_step (fun _ => ev_run 2 (F' := (14, [some (.ref 0), some (.int x1), some (.ref h2)], [.ref h2, .int x1, .ref 10])) rfl) ?_
      refine go_step (fun _ => ev_getf rfl u_h2 rfl) ?_
      obtain ⟨g17, h⟩ := okg h
      refine go_last rfl u_10 g17 (fun H2 (eH2 : H2[10]? = some (.inl (1, 8, .inr (.inl (vp_updL a10 x1.toNatClampNeg ch2_0))))) fH2 => ?_)
      refine go_step (fun _ => ev_run 1 (F' := (19, [some (.ref 0), some (.int x1), some (.ref h2)], [.ref 0])) rfl) ?_
      refine go_step (fun _ => ev_getf rfl ((fH2 0 rfl).trans u_0) rfl) ?_
      refine go_step (fun _ => ev_run 2 (F' := (24, [some (.ref 0), some (.int x1), some (.ref h2)], [.ref h2, .int x1, .ref 11])) rfl) ?_
      refine go_step (fun _ => ev_getf rfl ((fH2 h2 (xo_c ne_10_h2 rfl)).trans u_h2) rfl) ?_
      obtain ⟨g27, h⟩ := okg h
      refine go_last rfl ((fH2 11 rfl).trans u_11) g27 (fun H3 (eH3 : H3[11]? = some (.inl (1, 8, .inr (.inl (vp_updL a11 x1.toNatClampNeg ch2_1))))) fH3 => ?_)
      refine go_step (fun _ => ev_run 1 (F' := (29, [some (.ref 0), some (.int x1), some (.ref h2)], [.ref h2])) rfl) ?_
      obtain ⟨y4, hy4, h⟩ := okb h
      refine go_step (F1 := (32, [some (.ref 0), some (.int x1), some (.ref h2)], [.int y4])) (M1 := (H3, z)) (fun _ => ev_callV (x := (.invokevirtual 253, 3, 43, 3, 828, .null)) (as := []) (rest := []) rfl rfl ((fH3 h2 (xo_c ne_11_h2 rfl)).trans ((fH2 h2 (xo_c ne_10_h2 rfl)).trans u_h2)) (C_X4_degree (S := S) (d := d) (z := z) ((fH3 h2 (xo_c ne_11_h2 rfl)).trans ((fH2 h2 (xo_c ne_10_h2 rfl)).trans u_h2)) hy4) rfl) ?_
      cases h
      exact Or.inr ⟨_, ev_ret rfl rfl rfl rfl, H3, rfl, ((fH3 10 rfl).trans eH2), eH3, (xfr_t (xfr_t xfr_refl rfl fH2) rfl fH3)⟩
  obtain ⟨_, hE, H', rfl, hrest⟩ := go_end G
  exact ⟨H', hE, hrest⟩
def q_X11_polynomial (x1 : Int32) (x2 : Int32) (x3 : Int32) (a10 : Nat → Int64) (a11 : Nat → Int64) (c14_0 : Int64) (c14_1 : Int64) : Option ((Nat ⊕ Int32) × ((Nat → Int64) × (Nat → Int64) × Int64 × Int64)) := (xbnd (q_X11_requireShelf x1) (fun e2 y1 => (some (Sum.inl e2, (a10, a11, c14_0, c14_1)))) (fun v3 y4 => ((q_X11_putOnShelf x1 a10 a11 ((t_X4_become (((x2.toInt64) &&& (4294967295 : Int64)) ||| ((x3.toInt64) <<< ((32 : Int32).toInt64 &&& (63 : Int64)))) (0 : Int64)).1) ((t_X4_become (((x2.toInt64) &&& (4294967295 : Int64)) ||| ((x3.toInt64) <<< ((32 : Int32).toInt64 &&& (63 : Int64)))) (0 : Int64)).2)).bind (fun y6 => (some (Sum.inr y6.1, (y6.2.1, y6.2.2, (t_X4_become (((x2.toInt64) &&& (4294967295 : Int64)) ||| ((x3.toInt64) <<< ((32 : Int32).toInt64 &&& (63 : Int64)))) (0 : Int64)).1, (t_X4_become (((x2.toInt64) &&& (4294967295 : Int64)) ||| ((x3.toInt64) <<< ((32 : Int32).toInt64 &&& (63 : Int64)))) (0 : Int64)).2)))))))
theorem C_X11_polynomial {S : Nat × (Nat → Int32)} {d : Nat} {H : List xE} {z : Bool × Nat × Nat} {a10 : Nat → Int64} {a11 : Nat → Int64} {c14_0 : Int64} {c14_1 : Int64} {x1 : Int32} {x2 : Int32} {x3 : Int32} (u_0 : H[0]? = some (oO)) (u_10 : H[10]? = some (.inl (1, 8, .inr (.inl a10)))) (u_11 : H[11]? = some (.inl (1, 8, .inr (.inl a11)))) (u_14 : H[14]? = some (.inr (3, [.long c14_0, .long c14_1]))) {x : ((Nat ⊕ Int32) × ((Nat → Int64) × (Nat → Int64) × Int64 × Int64))} (h : q_X11_polynomial x1 x2 x3 a10 a11 c14_0 c14_1 = some x) : ∃ H' : List xE, Cm S (d + 3) 111 [.ref 0, .int x1, .int x2, .int x3] (H, z) (oI x.1, (H', oZ x.1 z)) ∧ H'[10]? = some (.inl (1, 8, .inr (.inl x.2.1))) ∧ H'[11]? = some (.inl (1, 8, .inr (.inl x.2.2.1))) ∧ H'[14]? = some (.inr (3, [.long x.2.2.2.1, .long x.2.2.2.2])) ∧ xfr [10, 11, 14] H H' := by
  have G : Go S (d + 3) 111 (0, [some (.ref 0), some (.int x1), some (.int x2), some (.int x3)], []) (H, z) (fun _ _ => False) (fun r => ∃ H' : List xE, r = (oI x.1, (H', oZ x.1 z)) ∧ H'[10]? = some (.inl (1, 8, .inr (.inl x.2.1))) ∧ H'[11]? = some (.inl (1, 8, .inr (.inl x.2.2.1))) ∧ H'[14]? = some (.inr (3, [.long x.2.2.2.1, .long x.2.2.2.2])) ∧ xfr [10, 11, 14] H H') := by
    unfold q_X11_polynomial at h
    refine go_step (fun _ => ev_run 2 (F' := (2, [some (.ref 0), some (.int x1), some (.int x2), some (.int x3)], [.int x1, .ref 0])) rfl) ?_
    rcases okx h with ⟨e2, y1, hy1, h⟩ | ⟨v3, y4, hy4, h⟩
    · skip
      cases h
      exact Or.inr ⟨_, ev_callVX (x := (.invokevirtual 226, 3, 150, 10, 811, .null)) (as := [.int x1]) (rest := []) rfl rfl u_0 rfl (C_X11_requireShelf (S := S) (d := d + 1) (z := z) (x1 := x1) u_0 u_10 u_11 hy1) rfl, H, rfl, u_10, u_11, u_14, xfr_refl⟩
    · skip
      refine go_step (F1 := (5, [some (.ref 0), some (.int x1), some (.int x2), some (.int x3)], [])) (M1 := (H, z)) (fun _ => ev_callV (x := (.invokevirtual 226, 3, 150, 10, 811, .null)) (as := [.int x1]) (rest := []) rfl rfl u_0 (C_X11_requireShelf (S := S) (d := d + 1) (z := z) (x1 := x1) u_0 u_10 u_11 hy4) rfl) ?_
      refine go_step (fun _ => ev_run 1 (F' := (6, [some (.ref 0), some (.int x1), some (.int x2), some (.int x3)], [.ref 0])) rfl) ?_
      refine go_step (fun _ => ev_getf rfl u_0 rfl) ?_
      refine go_step (fun _ => ev_run 10 (F' := (22, [some (.ref 0), some (.int x1), some (.int x2), some (.int x3)], [.long (0 : Int64), .long (((x2.toInt64) &&& (4294967295 : Int64)) ||| ((x3.toInt64) <<< ((32 : Int32).toInt64 &&& (63 : Int64)))), .ref 14])) rfl) ?_
      obtain ⟨H5, hCH5, eH5_14, fH5⟩ := C_X4_become (S := S) (d := d + 2) (z := z) (x1 := (((x2.toInt64) &&& (4294967295 : Int64)) ||| ((x3.toInt64) <<< ((32 : Int32).toInt64 &&& (63 : Int64))))) (x3 := (0 : Int64)) u_14
      refine go_step (F1 := (25, [some (.ref 0), some (.int x1), some (.int x2), some (.int x3)], [])) (M1 := (H5, z)) (fun _ => ev_callV (x := (.invokevirtual 229, 3, 40, 3, 820, .null)) (as := [.long (((x2.toInt64) &&& (4294967295 : Int64)) ||| ((x3.toInt64) <<< ((32 : Int32).toInt64 &&& (63 : Int64)))), .long (0 : Int64)]) (rest := []) rfl rfl u_14 hCH5 rfl) ?_
      refine go_step (fun _ => ev_run 3 (F' := (28, [some (.ref 0), some (.int x1), some (.int x2), some (.int x3)], [.ref 0, .int x1, .ref 0])) rfl) ?_
      refine go_step (fun _ => ev_getf rfl ((fH5 0 rfl).trans u_0) rfl) ?_
      obtain ⟨y6, hy6, h⟩ := okb h
      obtain ⟨H7, hCH7, eH7_10, eH7_11, fH7⟩ := C_X11_putOnShelf (S := S) (d := d) (z := z) (x1 := x1) ((fH5 0 rfl).trans u_0) ((fH5 10 rfl).trans u_10) ((fH5 11 rfl).trans u_11) eH5_14 (nb rfl) (nb rfl) hy6
      refine go_step (F1 := (34, [some (.ref 0), some (.int x1), some (.int x2), some (.int x3)], [.int y6.1])) (M1 := (H7, z)) (fun _ => ev_callV (x := (.invokevirtual 233, 3, 142, 10, 824, .null)) (as := [.int x1, .ref 14]) (rest := []) rfl rfl ((fH5 0 rfl).trans u_0) hCH7 rfl) ?_
      cases h
      exact Or.inr ⟨_, ev_ret rfl rfl rfl rfl, H7, rfl, eH7_10, eH7_11, ((fH7 14 rfl).trans eH5_14), (xfr_t (xfr_t xfr_refl rfl fH5) rfl fH7)⟩
  obtain ⟨_, hE, H', rfl, hrest⟩ := go_end G
  exact ⟨H', hE, hrest⟩
def q_X11_ofKind (x1 : Int32) (a10 : Nat → Int64) (a11 : Nat → Int64) (c8_0 : Int32) (c8_1 : Int32) (c14_0 : Int64) (c14_1 : Int64) : Option ((Nat ⊕ Int32) × ((Nat → Int64) × (Nat → Int64) × Int64 × Int64)) := (xbnd (q_X11_requireShelf x1) (fun e2 y1 => (some (Sum.inl e2, (a10, a11, c14_0, c14_1)))) (fun v3 y4 => ((q_X11_putOnShelf x1 a10 a11 ((t_X4_become (t_X1_number c8_0 c8_1) (0 : Int64)).1) ((t_X4_become (t_X1_number c8_0 c8_1) (0 : Int64)).2)).bind (fun y6 => (some (Sum.inr y6.1, (y6.2.1, y6.2.2, (t_X4_become (t_X1_number c8_0 c8_1) (0 : Int64)).1, (t_X4_become (t_X1_number c8_0 c8_1) (0 : Int64)).2)))))))
theorem C_X11_ofKind {S : Nat × (Nat → Int32)} {d : Nat} {H : List xE} {z : Bool × Nat × Nat} {a10 : Nat → Int64} {a11 : Nat → Int64} {c8_0 : Int32} {c8_1 : Int32} {c8_2 : Int32} {c8_3 : Int32} {c8_4 : Int32} {c8_5 : Int32} {c14_0 : Int64} {c14_1 : Int64} {x1 : Int32} (u_0 : H[0]? = some (oO)) (u_10 : H[10]? = some (.inl (1, 8, .inr (.inl a10)))) (u_11 : H[11]? = some (.inl (1, 8, .inr (.inl a11)))) (u_8 : H[8]? = some (.inr (1, [.int c8_0, .int c8_1, .int c8_2, .int c8_3, .int c8_4, .int c8_5]))) (u_14 : H[14]? = some (.inr (3, [.long c14_0, .long c14_1]))) {x : ((Nat ⊕ Int32) × ((Nat → Int64) × (Nat → Int64) × Int64 × Int64))} (h : q_X11_ofKind x1 a10 a11 c8_0 c8_1 c14_0 c14_1 = some x) : ∃ H' : List xE, Cm S (d + 3) 112 [.ref 0, .int x1] (H, z) (oI x.1, (H', oZ x.1 z)) ∧ H'[10]? = some (.inl (1, 8, .inr (.inl x.2.1))) ∧ H'[11]? = some (.inl (1, 8, .inr (.inl x.2.2.1))) ∧ H'[14]? = some (.inr (3, [.long x.2.2.2.1, .long x.2.2.2.2])) ∧ xfr [10, 11, 14] H H' := by
  have G : Go S (d + 3) 112 (0, [some (.ref 0), some (.int x1)], []) (H, z) (fun _ _ => False) (fun r => ∃ H' : List xE, r = (oI x.1, (H', oZ x.1 z)) ∧ H'[10]? = some (.inl (1, 8, .inr (.inl x.2.1))) ∧ H'[11]? = some (.inl (1, 8, .inr (.inl x.2.2.1))) ∧ H'[14]? = some (.inr (3, [.long x.2.2.2.1, .long x.2.2.2.2])) ∧ xfr [10, 11, 14] H H') := by
    unfold q_X11_ofKind at h
    refine go_step (fun _ => ev_run 2 (F' := (2, [some (.ref 0), some (.int x1)], [.int x1, .ref 0])) rfl) ?_
    rcases okx h with ⟨e2, y1, hy1, h⟩ | ⟨v3, y4, hy4, h⟩
    · skip
      cases h
      exact Or.inr ⟨_, ev_callVX (x := (.invokevirtual 226, 3, 150, 10, 811, .null)) (as := [.int x1]) (rest := []) rfl rfl u_0 rfl (C_X11_requireShelf (S := S) (d := d + 1) (z := z) (x1 := x1) u_0 u_10 u_11 hy1) rfl, H, rfl, u_10, u_11, u_14, xfr_refl⟩
    · skip
      refine go_step (F1 := (5, [some (.ref 0), some (.int x1)], [])) (M1 := (H, z)) (fun _ => ev_callV (x := (.invokevirtual 226, 3, 150, 10, 811, .null)) (as := [.int x1]) (rest := []) rfl rfl u_0 (C_X11_requireShelf (S := S) (d := d + 1) (z := z) (x1 := x1) u_0 u_10 u_11 hy4) rfl) ?_
      refine go_step (fun _ => ev_run 1 (F' := (6, [some (.ref 0), some (.int x1)], [.ref 0])) rfl) ?_
      refine go_step (fun _ => ev_getf rfl u_0 rfl) ?_
      refine go_step (fun _ => ev_run 1 (F' := (10, [some (.ref 0), some (.int x1)], [.ref 0, .ref 14])) rfl) ?_
      refine go_step (fun _ => ev_getf rfl u_0 rfl) ?_
      refine go_step (F1 := (16, [some (.ref 0), some (.int x1)], [.long (t_X1_number c8_0 c8_1), .ref 14])) (M1 := (H, z)) (fun _ => ev_callV (x := (.invokevirtual 237, 3, 14, 1, 890, .null)) (as := []) (rest := [.ref 14]) rfl rfl u_8 (C_X1_number (S := S) (d := d + 2) (z := z) u_8) rfl) ?_
      refine go_step (fun _ => ev_run 1 (F' := (17, [some (.ref 0), some (.int x1)], [.long (0 : Int64), .long (t_X1_number c8_0 c8_1), .ref 14])) rfl) ?_
      obtain ⟨H5, hCH5, eH5_14, fH5⟩ := C_X4_become (S := S) (d := d + 2) (z := z) (x1 := (t_X1_number c8_0 c8_1)) (x3 := (0 : Int64)) u_14
      refine go_step (F1 := (20, [some (.ref 0), some (.int x1)], [])) (M1 := (H5, z)) (fun _ => ev_callV (x := (.invokevirtual 229, 3, 40, 3, 820, .null)) (as := [.long (t_X1_number c8_0 c8_1), .long (0 : Int64)]) (rest := []) rfl rfl u_14 hCH5 rfl) ?_
      refine go_step (fun _ => ev_run 3 (F' := (23, [some (.ref 0), some (.int x1)], [.ref 0, .int x1, .ref 0])) rfl) ?_
      refine go_step (fun _ => ev_getf rfl ((fH5 0 rfl).trans u_0) rfl) ?_
      obtain ⟨y6, hy6, h⟩ := okb h
      obtain ⟨H7, hCH7, eH7_10, eH7_11, fH7⟩ := C_X11_putOnShelf (S := S) (d := d) (z := z) (x1 := x1) ((fH5 0 rfl).trans u_0) ((fH5 10 rfl).trans u_10) ((fH5 11 rfl).trans u_11) eH5_14 (nb rfl) (nb rfl) hy6
      refine go_step (F1 := (29, [some (.ref 0), some (.int x1)], [.int y6.1])) (M1 := (H7, z)) (fun _ => ev_callV (x := (.invokevirtual 233, 3, 142, 10, 824, .null)) (as := [.int x1, .ref 14]) (rest := []) rfl rfl ((fH5 0 rfl).trans u_0) hCH7 rfl) ?_
      cases h
      exact Or.inr ⟨_, ev_ret rfl rfl rfl rfl, H7, rfl, eH7_10, eH7_11, ((fH7 14 rfl).trans eH5_14), (xfr_t (xfr_t xfr_refl rfl fH5) rfl fH7)⟩
  obtain ⟨_, hE, H', rfl, hrest⟩ := go_end G
  exact ⟨H', hE, hrest⟩
def q_X11_takeFromShelf (x1 : Int32) (a10 : Nat → Int64) (a11 : Nat → Int64) (ch2_0 : Int64) (ch2_1 : Int64) : Option (Int64 × Int64) := (if (t_X11_hasShelf x1) = (0 : Int32) then (some (ch2_0, ch2_1)) else (if xin x1 8 = true then (if xin x1 8 = true then (some ((t_X4_become (a10 x1.toNatClampNeg) (a11 x1.toNatClampNeg)).1, (t_X4_become (a10 x1.toNatClampNeg) (a11 x1.toNatClampNeg)).2)) else none) else none))
theorem C_X11_takeFromShelf {S : Nat × (Nat → Int32)} {d : Nat} {H : List xE} {z : Bool × Nat × Nat} {h2 : Nat} {a10 : Nat → Int64} {a11 : Nat → Int64} {ch2_0 : Int64} {ch2_1 : Int64} {x1 : Int32} (u_0 : H[0]? = some (oO)) (u_10 : H[10]? = some (.inl (1, 8, .inr (.inl a10)))) (u_11 : H[11]? = some (.inl (1, 8, .inr (.inl a11)))) (u_h2 : H[h2]? = some (.inr (3, [.long ch2_0, .long ch2_1]))) {x : (Int64 × Int64)} (h : q_X11_takeFromShelf x1 a10 a11 ch2_0 ch2_1 = some x) : ∃ H' : List xE, Cm S (d + 1) 143 [.ref 0, .int x1, .ref h2] (H, z) (.inr none, (H', z)) ∧ H'[h2]? = some (.inr (3, [.long x.1, .long x.2])) ∧ xfr [h2] H H' := by
  have G : Go S (d + 1) 143 (0, [some (.ref 0), some (.int x1), some (.ref h2)], []) (H, z) (fun _ _ => False) (fun r => ∃ H' : List xE, r = (.inr none, (H', z)) ∧ H'[h2]? = some (.inr (3, [.long x.1, .long x.2])) ∧ xfr [h2] H H') := by
    unfold q_X11_takeFromShelf at h
    refine go_step (fun _ => ev_run 2 (F' := (2, [some (.ref 0), some (.int x1), some (.ref h2)], [.int x1, .ref 0])) rfl) ?_
    refine go_step (F1 := (5, [some (.ref 0), some (.int x1), some (.ref h2)], [.int (t_X11_hasShelf x1)])) (M1 := (H, z)) (fun _ => ev_callV (x := (.invokevirtual 449, 3, 141, 10, 815, .null)) (as := [.int x1]) (rest := []) rfl rfl u_0 (C_X11_hasShelf (S := S) (d := d) (z := z) (x1 := x1) u_0 u_10 u_11) rfl) ?_
    refine go_if rfl (fun (b5 : (t_X11_hasShelf x1) = (0 : Int32)) => ?_) (fun (b5 : ¬ ((t_X11_hasShelf x1) = (0 : Int32))) => ?_)
    · have h := (if_pos b5).symm.trans h
      cases h
      exact Or.inr ⟨_, ev_ret rfl rfl rfl rfl, H, rfl, u_h2, xfr_refl⟩
    · have h := (if_neg b5).symm.trans h
      refine go_step (fun _ => ev_run 2 (F' := (10, [some (.ref 0), some (.int x1), some (.ref h2)], [.ref 0, .ref h2])) rfl) ?_
      refine go_step (fun _ => ev_getf rfl u_0 rfl) ?_
      refine go_step (fun _ => ev_run 1 (F' := (14, [some (.ref 0), some (.int x1), some (.ref h2)], [.int x1, .ref 10, .ref h2])) rfl) ?_
      obtain ⟨g14, h⟩ := okg h
      refine go_step (fun _ => ev_lald rfl u_10 g14) ?_
      refine go_step (fun _ => ev_run 1 (F' := (16, [some (.ref 0), some (.int x1), some (.ref h2)], [.ref 0, .long (a10 x1.toNatClampNeg), .ref h2])) rfl) ?_
      refine go_step (fun _ => ev_getf rfl u_0 rfl) ?_
      refine go_step (fun _ => ev_run 1 (F' := (20, [some (.ref 0), some (.int x1), some (.ref h2)], [.int x1, .ref 11, .long (a10 x1.toNatClampNeg), .ref h2])) rfl) ?_
      obtain ⟨g20, h⟩ := okg h
      refine go_step (fun _ => ev_lald rfl u_11 g20) ?_
      obtain ⟨H1, hCH1, eH1_h2, fH1⟩ := C_X4_become (S := S) (d := d) (z := z) (x1 := (a10 x1.toNatClampNeg)) (x3 := (a11 x1.toNatClampNeg)) u_h2
      refine go_step (F1 := (24, [some (.ref 0), some (.int x1), some (.ref h2)], [])) (M1 := (H1, z)) (fun _ => ev_callV (x := (.invokevirtual 229, 3, 40, 3, 820, .null)) (as := [.long (a10 x1.toNatClampNeg), .long (a11 x1.toNatClampNeg)]) (rest := []) rfl rfl u_h2 hCH1 rfl) ?_
      cases h
      exact Or.inr ⟨_, ev_ret rfl rfl rfl rfl, H1, rfl, eH1_h2, (xfr_t xfr_refl (xs_c xm_h rfl) fH1)⟩
  obtain ⟨_, hE, H', rfl, hrest⟩ := go_end G
  exact ⟨H', hE, hrest⟩
def q_X11_bits (x1 : Int32) (x2 : Int32) (a10 : Nat → Int64) (a11 : Nat → Int64) (c12_0 : Int64) (c12_1 : Int64) : Option ((Nat ⊕ Int32) × (Int64 × Int64)) := (xbnd (q_X11_requireShelf x1) (fun e2 y1 => (some (Sum.inl e2, (c12_0, c12_1)))) (fun v3 y4 => (if x2 < (0 : Int32) then (some (Sum.inl 0, (c12_0, c12_1))) else (if x2 ≤ (2 : Int32) then ((q_X11_takeFromShelf x1 a10 a11 c12_0 c12_1).bind (fun y5 => (some (Sum.inr (t_X4_part x2 y5.1 y5.2), (y5.1, y5.2))))) else (some (Sum.inl 0, (c12_0, c12_1)))))))
theorem C_X11_bits {S : Nat × (Nat → Int32)} {d : Nat} {H : List xE} {z : Bool × Nat × Nat} {a10 : Nat → Int64} {a11 : Nat → Int64} {c12_0 : Int64} {c12_1 : Int64} {x1 : Int32} {x2 : Int32} (u_0 : H[0]? = some (oO)) (u_10 : H[10]? = some (.inl (1, 8, .inr (.inl a10)))) (u_11 : H[11]? = some (.inl (1, 8, .inr (.inl a11)))) (u_12 : H[12]? = some (.inr (3, [.long c12_0, .long c12_1]))) {x : ((Nat ⊕ Int32) × (Int64 × Int64))} (h : q_X11_bits x1 x2 a10 a11 c12_0 c12_1 = some x) : ∃ H' : List xE, Cm S (d + 2) 113 [.ref 0, .int x1, .int x2] (H, z) (oI x.1, (H', oZ x.1 z)) ∧ H'[12]? = some (.inr (3, [.long x.2.1, .long x.2.2])) ∧ xfr [12] H H' := by
  have G : Go S (d + 2) 113 (0, [some (.ref 0), some (.int x1), some (.int x2)], []) (H, z) (fun _ _ => False) (fun r => ∃ H' : List xE, r = (oI x.1, (H', oZ x.1 z)) ∧ H'[12]? = some (.inr (3, [.long x.2.1, .long x.2.2])) ∧ xfr [12] H H') := by
    unfold q_X11_bits at h
    refine go_step (fun _ => ev_run 2 (F' := (2, [some (.ref 0), some (.int x1), some (.int x2)], [.int x1, .ref 0])) rfl) ?_
    rcases okx h with ⟨e2, y1, hy1, h⟩ | ⟨v3, y4, hy4, h⟩
    · skip
      cases h
      exact Or.inr ⟨_, ev_callVX (x := (.invokevirtual 226, 3, 150, 10, 811, .null)) (as := [.int x1]) (rest := []) rfl rfl u_0 rfl (C_X11_requireShelf (S := S) (d := d) (z := z) (x1 := x1) u_0 u_10 u_11 hy1) rfl, H, rfl, u_12, xfr_refl⟩
    · skip
      refine go_step (F1 := (5, [some (.ref 0), some (.int x1), some (.int x2)], [])) (M1 := (H, z)) (fun _ => ev_callV (x := (.invokevirtual 226, 3, 150, 10, 811, .null)) (as := [.int x1]) (rest := []) rfl rfl u_0 (C_X11_requireShelf (S := S) (d := d) (z := z) (x1 := x1) u_0 u_10 u_11 hy4) rfl) ?_
      refine go_step (fun _ => ev_run 1 (F' := (6, [some (.ref 0), some (.int x1), some (.int x2)], [.int x2])) rfl) ?_
      refine go_if rfl (fun (b6 : x2 < (0 : Int32)) => ?_) (fun (b6 : ¬ (x2 < (0 : Int32))) => ?_)
      · have h := (if_pos b6).symm.trans h
        cases h
        exact Or.inr ⟨_, ev_throw rfl rfl rfl rfl, H, rfl, u_12, xfr_refl⟩
      · have h := (if_neg b6).symm.trans h
        refine go_step (fun _ => ev_run 2 (F' := (11, [some (.ref 0), some (.int x1), some (.int x2)], [.int (2 : Int32), .int x2])) rfl) ?_
        refine go_icmp rfl (fun (b11 : x2 ≤ (2 : Int32)) => ?_) (fun (b11 : ¬ (x2 ≤ (2 : Int32))) => ?_)
        · have h := (if_pos b11).symm.trans h
          refine go_step (fun _ => ev_run 3 (F' := (27, [some (.ref 0), some (.int x1), some (.int x2)], [.ref 0, .int x1, .ref 0])) rfl) ?_
          refine go_step (fun _ => ev_getf rfl u_0 rfl) ?_
          obtain ⟨y5, hy5, h⟩ := okb h
          obtain ⟨H6, hCH6, eH6_12, fH6⟩ := C_X11_takeFromShelf (S := S) (d := d) (z := z) (x1 := x1) u_0 u_10 u_11 u_12 hy5
          refine go_step (F1 := (33, [some (.ref 0), some (.int x1), some (.int x2)], [])) (M1 := (H6, z)) (fun _ => ev_callV (x := (.invokevirtual 243, 3, 143, 10, 844, .null)) (as := [.int x1, .ref 12]) (rest := []) rfl rfl u_0 hCH6 rfl) ?_
          refine go_step (fun _ => ev_run 1 (F' := (34, [some (.ref 0), some (.int x1), some (.int x2)], [.ref 0])) rfl) ?_
          refine go_step (fun _ => ev_getf rfl ((fH6 0 rfl).trans u_0) rfl) ?_
          refine go_step (fun _ => ev_run 1 (F' := (38, [some (.ref 0), some (.int x1), some (.int x2)], [.int x2, .ref 12])) rfl) ?_
          refine go_step (F1 := (41, [some (.ref 0), some (.int x1), some (.int x2)], [.int (t_X4_part x2 y5.1 y5.2)])) (M1 := (H6, z)) (fun _ => ev_callV (x := (.invokevirtual 247, 3, 44, 3, 917, .null)) (as := [.int x2]) (rest := []) rfl rfl eH6_12 (C_X4_part (S := S) (d := d + 1) (z := z) (x1 := x2) eH6_12) rfl) ?_
          cases h
          exact Or.inr ⟨_, ev_ret rfl rfl rfl rfl, H6, rfl, eH6_12, (xfr_t xfr_refl rfl fH6)⟩
        · have h := (if_neg b11).symm.trans h
          cases h
          exact Or.inr ⟨_, ev_throw rfl rfl rfl rfl, H, rfl, u_12, xfr_refl⟩
  obtain ⟨_, hE, H', rfl, hrest⟩ := go_end G
  exact ⟨H', hE, hrest⟩
def q_X11_takeBoth (x1 : Int32) (x2 : Int32) (a10 : Nat → Int64) (a11 : Nat → Int64) (c12_0 : Int64) (c12_1 : Int64) (c13_0 : Int64) (c13_1 : Int64) : Option ((Nat ⊕ Unit) × (Int64 × Int64 × Int64 × Int64)) := (xbnd (q_X11_requireShelf x1) (fun e2 y1 => (some (Sum.inl e2, (c12_0, c12_1, c13_0, c13_1)))) (fun v3 y4 => (xbnd (q_X11_requireShelf x2) (fun e6 y5 => (some (Sum.inl e6, (c12_0, c12_1, c13_0, c13_1)))) (fun v7 y8 => ((q_X11_takeFromShelf x1 a10 a11 c12_0 c12_1).bind (fun y9 => ((q_X11_takeFromShelf x2 a10 a11 c13_0 c13_1).bind (fun y11 => (some (Sum.inr (), (y9.1, y9.2, y11.1, y11.2)))))))))))
theorem C_X11_takeBoth {S : Nat × (Nat → Int32)} {d : Nat} {H : List xE} {z : Bool × Nat × Nat} {a10 : Nat → Int64} {a11 : Nat → Int64} {c12_0 : Int64} {c12_1 : Int64} {c13_0 : Int64} {c13_1 : Int64} {x1 : Int32} {x2 : Int32} (u_0 : H[0]? = some (oO)) (u_10 : H[10]? = some (.inl (1, 8, .inr (.inl a10)))) (u_11 : H[11]? = some (.inl (1, 8, .inr (.inl a11)))) (u_12 : H[12]? = some (.inr (3, [.long c12_0, .long c12_1]))) (u_13 : H[13]? = some (.inr (3, [.long c13_0, .long c13_1]))) {x : ((Nat ⊕ Unit) × (Int64 × Int64 × Int64 × Int64))} (h : q_X11_takeBoth x1 x2 a10 a11 c12_0 c12_1 c13_0 c13_1 = some x) : ∃ H' : List xE, Cm S (d + 2) 144 [.ref 0, .int x1, .int x2] (H, z) (oU x.1, (H', oZ x.1 z)) ∧ H'[12]? = some (.inr (3, [.long x.2.1, .long x.2.2.1])) ∧ H'[13]? = some (.inr (3, [.long x.2.2.2.1, .long x.2.2.2.2])) ∧ xfr [12, 13] H H' := by
  have G : Go S (d + 2) 144 (0, [some (.ref 0), some (.int x1), some (.int x2)], []) (H, z) (fun _ _ => False) (fun r => ∃ H' : List xE, r = (oU x.1, (H', oZ x.1 z)) ∧ H'[12]? = some (.inr (3, [.long x.2.1, .long x.2.2.1])) ∧ H'[13]? = some (.inr (3, [.long x.2.2.2.1, .long x.2.2.2.2])) ∧ xfr [12, 13] H H') := by
    unfold q_X11_takeBoth at h
    refine go_step (fun _ => ev_run 2 (F' := (2, [some (.ref 0), some (.int x1), some (.int x2)], [.int x1, .ref 0])) rfl) ?_
    rcases okx h with ⟨e2, y1, hy1, h⟩ | ⟨v3, y4, hy4, h⟩
    · skip
      cases h
      exact Or.inr ⟨_, ev_callVX (x := (.invokevirtual 226, 3, 150, 10, 811, .null)) (as := [.int x1]) (rest := []) rfl rfl u_0 rfl (C_X11_requireShelf (S := S) (d := d) (z := z) (x1 := x1) u_0 u_10 u_11 hy1) rfl, H, rfl, u_12, u_13, xfr_refl⟩
    · skip
      refine go_step (F1 := (5, [some (.ref 0), some (.int x1), some (.int x2)], [])) (M1 := (H, z)) (fun _ => ev_callV (x := (.invokevirtual 226, 3, 150, 10, 811, .null)) (as := [.int x1]) (rest := []) rfl rfl u_0 (C_X11_requireShelf (S := S) (d := d) (z := z) (x1 := x1) u_0 u_10 u_11 hy4) rfl) ?_
      refine go_step (fun _ => ev_run 2 (F' := (7, [some (.ref 0), some (.int x1), some (.int x2)], [.int x2, .ref 0])) rfl) ?_
      rcases okx h with ⟨e6, y5, hy5, h⟩ | ⟨v7, y8, hy8, h⟩
      · skip
        cases h
        exact Or.inr ⟨_, ev_callVX (x := (.invokevirtual 226, 3, 150, 10, 811, .null)) (as := [.int x2]) (rest := []) rfl rfl u_0 rfl (C_X11_requireShelf (S := S) (d := d) (z := z) (x1 := x2) u_0 u_10 u_11 hy5) rfl, H, rfl, u_12, u_13, xfr_refl⟩
      · skip
        refine go_step (F1 := (10, [some (.ref 0), some (.int x1), some (.int x2)], [])) (M1 := (H, z)) (fun _ => ev_callV (x := (.invokevirtual 226, 3, 150, 10, 811, .null)) (as := [.int x2]) (rest := []) rfl rfl u_0 (C_X11_requireShelf (S := S) (d := d) (z := z) (x1 := x2) u_0 u_10 u_11 hy8) rfl) ?_
        refine go_step (fun _ => ev_run 3 (F' := (13, [some (.ref 0), some (.int x1), some (.int x2)], [.ref 0, .int x1, .ref 0])) rfl) ?_
        refine go_step (fun _ => ev_getf rfl u_0 rfl) ?_
        obtain ⟨y9, hy9, h⟩ := okb h
        obtain ⟨H10, hCH10, eH10_12, fH10⟩ := C_X11_takeFromShelf (S := S) (d := d) (z := z) (x1 := x1) u_0 u_10 u_11 u_12 hy9
        refine go_step (F1 := (19, [some (.ref 0), some (.int x1), some (.int x2)], [])) (M1 := (H10, z)) (fun _ => ev_callV (x := (.invokevirtual 243, 3, 143, 10, 844, .null)) (as := [.int x1, .ref 12]) (rest := []) rfl rfl u_0 hCH10 rfl) ?_
        refine go_step (fun _ => ev_run 3 (F' := (22, [some (.ref 0), some (.int x1), some (.int x2)], [.ref 0, .int x2, .ref 0])) rfl) ?_
        refine go_step (fun _ => ev_getf rfl ((fH10 0 rfl).trans u_0) rfl) ?_
        obtain ⟨y11, hy11, h⟩ := okb h
        obtain ⟨H12, hCH12, eH12_13, fH12⟩ := C_X11_takeFromShelf (S := S) (d := d) (z := z) (x1 := x2) ((fH10 0 rfl).trans u_0) ((fH10 10 rfl).trans u_10) ((fH10 11 rfl).trans u_11) ((fH10 13 rfl).trans u_13) hy11
        refine go_step (F1 := (28, [some (.ref 0), some (.int x1), some (.int x2)], [])) (M1 := (H12, z)) (fun _ => ev_callV (x := (.invokevirtual 243, 3, 143, 10, 844, .null)) (as := [.int x2, .ref 13]) (rest := []) rfl rfl ((fH10 0 rfl).trans u_0) hCH12 rfl) ?_
        cases h
        exact Or.inr ⟨_, ev_ret rfl rfl rfl rfl, H12, rfl, ((fH12 12 rfl).trans eH10_12), eH12_13, (xfr_t (xfr_t xfr_refl rfl fH10) rfl fH12)⟩
  obtain ⟨_, hE, H', rfl, hrest⟩ := go_end G
  exact ⟨H', hE, hrest⟩
def q_X11_join (x1 : Int32) (x2 : Int32) (x3 : Int32) (x4 : Int32) (a10 : Nat → Int64) (a11 : Nat → Int64) (c12_0 : Int64) (c12_1 : Int64) (c13_0 : Int64) (c13_1 : Int64) (c14_0 : Int64) (c14_1 : Int64) : Option ((Nat ⊕ Int32) × ((Nat → Int64) × (Nat → Int64) × Int64 × Int64 × Int64 × Int64 × Int64 × Int64)) := (xbnd (q_X11_requireShelf x1) (fun e2 y1 => (some (Sum.inl e2, (a10, a11, c12_0, c12_1, c13_0, c13_1, c14_0, c14_1)))) (fun v3 y4 => (xbnd (q_X11_takeBoth x2 x3 a10 a11 c12_0 c12_1 c13_0 c13_1) (fun e6 y5 => (some (Sum.inl e6, (a10, a11, y5.1, y5.2.1, y5.2.2.1, y5.2.2.2, c14_0, c14_1)))) (fun v7 y8 => (if x4 = (0 : Int32) then (if x4 = (0 : Int32) then ((q_X11_putOnShelf x1 a10 a11 ((t_X4_becomeSum y8.1 y8.2.1 y8.2.2.1 y8.2.2.2).1) ((t_X4_becomeSum y8.1 y8.2.1 y8.2.2.1 y8.2.2.2).2)).bind (fun y12 => (some (Sum.inr y12.1, (y12.2.1, y12.2.2, y8.1, y8.2.1, y8.2.2.1, y8.2.2.2, (t_X4_becomeSum y8.1 y8.2.1 y8.2.2.1 y8.2.2.2).1, (t_X4_becomeSum y8.1 y8.2.1 y8.2.2.1 y8.2.2.2).2))))) else ((q_X4_becomeProduct y8.1 y8.2.1 y8.2.2.1 y8.2.2.2).bind (fun y14 => ((q_X11_putOnShelf x1 a10 a11 y14.1 y14.2).bind (fun y16 => (some (Sum.inr y16.1, (y16.2.1, y16.2.2, y8.1, y8.2.1, y8.2.2.1, y8.2.2.2, y14.1, y14.2)))))))) else ((q_X4_degree y8.1 y8.2.1).bind (fun y18 => (if y18 < (0 : Int32) then (if x4 = (0 : Int32) then ((q_X11_putOnShelf x1 a10 a11 ((t_X4_becomeSum y8.1 y8.2.1 y8.2.2.1 y8.2.2.2).1) ((t_X4_becomeSum y8.1 y8.2.1 y8.2.2.1 y8.2.2.2).2)).bind (fun y20 => (some (Sum.inr y20.1, (y20.2.1, y20.2.2, y8.1, y8.2.1, y8.2.2.1, y8.2.2.2, (t_X4_becomeSum y8.1 y8.2.1 y8.2.2.1 y8.2.2.2).1, (t_X4_becomeSum y8.1 y8.2.1 y8.2.2.1 y8.2.2.2).2))))) else ((q_X4_becomeProduct y8.1 y8.2.1 y8.2.2.1 y8.2.2.2).bind (fun y22 => ((q_X11_putOnShelf x1 a10 a11 y22.1 y22.2).bind (fun y24 => (some (Sum.inr y24.1, (y24.2.1, y24.2.2, y8.1, y8.2.1, y8.2.2.1, y8.2.2.2, y22.1, y22.2)))))))) else ((q_X4_degree y8.2.2.1 y8.2.2.2).bind (fun y26 => (if y26 < (0 : Int32) then (if x4 = (0 : Int32) then ((q_X11_putOnShelf x1 a10 a11 ((t_X4_becomeSum y8.1 y8.2.1 y8.2.2.1 y8.2.2.2).1) ((t_X4_becomeSum y8.1 y8.2.1 y8.2.2.1 y8.2.2.2).2)).bind (fun y28 => (some (Sum.inr y28.1, (y28.2.1, y28.2.2, y8.1, y8.2.1, y8.2.2.1, y8.2.2.2, (t_X4_becomeSum y8.1 y8.2.1 y8.2.2.1 y8.2.2.2).1, (t_X4_becomeSum y8.1 y8.2.1 y8.2.2.1 y8.2.2.2).2))))) else ((q_X4_becomeProduct y8.1 y8.2.1 y8.2.2.1 y8.2.2.2).bind (fun y30 => ((q_X11_putOnShelf x1 a10 a11 y30.1 y30.2).bind (fun y32 => (some (Sum.inr y32.1, (y32.2.1, y32.2.2, y8.1, y8.2.1, y8.2.2.1, y8.2.2.2, y30.1, y30.2)))))))) else ((q_X4_degree y8.1 y8.2.1).bind (fun y34 => ((q_X4_degree y8.2.2.1 y8.2.2.2).bind (fun y35 => (if (y34 + y35) ≤ (95 : Int32) then (if x4 = (0 : Int32) then ((q_X11_putOnShelf x1 a10 a11 ((t_X4_becomeSum y8.1 y8.2.1 y8.2.2.1 y8.2.2.2).1) ((t_X4_becomeSum y8.1 y8.2.1 y8.2.2.1 y8.2.2.2).2)).bind (fun y37 => (some (Sum.inr y37.1, (y37.2.1, y37.2.2, y8.1, y8.2.1, y8.2.2.1, y8.2.2.2, (t_X4_becomeSum y8.1 y8.2.1 y8.2.2.1 y8.2.2.2).1, (t_X4_becomeSum y8.1 y8.2.1 y8.2.2.1 y8.2.2.2).2))))) else ((q_X4_becomeProduct y8.1 y8.2.1 y8.2.2.1 y8.2.2.2).bind (fun y39 => ((q_X11_putOnShelf x1 a10 a11 y39.1 y39.2).bind (fun y41 => (some (Sum.inr y41.1, (y41.2.1, y41.2.2, y8.1, y8.2.1, y8.2.2.1, y8.2.2.2, y39.1, y39.2)))))))) else (some (Sum.inl 1, (a10, a11, y8.1, y8.2.1, y8.2.2.1, y8.2.2.2, c14_0, c14_1)))))))))))))))))))
theorem C_X11_join {S : Nat × (Nat → Int32)} {d : Nat} {H : List xE} {z : Bool × Nat × Nat} {a10 : Nat → Int64} {a11 : Nat → Int64} {c12_0 : Int64} {c12_1 : Int64} {c13_0 : Int64} {c13_1 : Int64} {c14_0 : Int64} {c14_1 : Int64} {x1 : Int32} {x2 : Int32} {x3 : Int32} {x4 : Int32} (u_0 : H[0]? = some (oO)) (u_10 : H[10]? = some (.inl (1, 8, .inr (.inl a10)))) (u_11 : H[11]? = some (.inl (1, 8, .inr (.inl a11)))) (u_12 : H[12]? = some (.inr (3, [.long c12_0, .long c12_1]))) (u_13 : H[13]? = some (.inr (3, [.long c13_0, .long c13_1]))) (u_14 : H[14]? = some (.inr (3, [.long c14_0, .long c14_1]))) {x : ((Nat ⊕ Int32) × ((Nat → Int64) × (Nat → Int64) × Int64 × Int64 × Int64 × Int64 × Int64 × Int64))} (h : q_X11_join x1 x2 x3 x4 a10 a11 c12_0 c12_1 c13_0 c13_1 c14_0 c14_1 = some x) : ∃ H' : List xE, Cm S (d + 3) 114 [.ref 0, .int x1, .int x2, .int x3, .int x4] (H, z) (oI x.1, (H', oZ x.1 z)) ∧ H'[10]? = some (.inl (1, 8, .inr (.inl x.2.1))) ∧ H'[11]? = some (.inl (1, 8, .inr (.inl x.2.2.1))) ∧ H'[12]? = some (.inr (3, [.long x.2.2.2.1, .long x.2.2.2.2.1])) ∧ H'[13]? = some (.inr (3, [.long x.2.2.2.2.2.1, .long x.2.2.2.2.2.2.1])) ∧ H'[14]? = some (.inr (3, [.long x.2.2.2.2.2.2.2.1, .long x.2.2.2.2.2.2.2.2])) ∧ xfr [10, 11, 12, 13, 14] H H' := by
  have G : Go S (d + 3) 114 (0, [some (.ref 0), some (.int x1), some (.int x2), some (.int x3), some (.int x4)], []) (H, z) (fun _ _ => False) (fun r => ∃ H' : List xE, r = (oI x.1, (H', oZ x.1 z)) ∧ H'[10]? = some (.inl (1, 8, .inr (.inl x.2.1))) ∧ H'[11]? = some (.inl (1, 8, .inr (.inl x.2.2.1))) ∧ H'[12]? = some (.inr (3, [.long x.2.2.2.1, .long x.2.2.2.2.1])) ∧ H'[13]? = some (.inr (3, [.long x.2.2.2.2.2.1, .long x.2.2.2.2.2.2.1])) ∧ H'[14]? = some (.inr (3, [.long x.2.2.2.2.2.2.2.1, .long x.2.2.2.2.2.2.2.2])) ∧ xfr [10, 11, 12, 13, 14] H H') := by
    unfold q_X11_join at h
    refine go_step (fun _ => ev_run 2 (F' := (2, [some (.ref 0), some (.int x1), some (.int x2), some (.int x3), some (.int x4)], [.int x1, .ref 0])) rfl) ?_
    rcases okx h with ⟨e2, y1, hy1, h⟩ | ⟨v3, y4, hy4, h⟩
    · skip
      cases h
      exact Or.inr ⟨_, ev_callVX (x := (.invokevirtual 226, 3, 150, 10, 811, .null)) (as := [.int x1]) (rest := []) rfl rfl u_0 rfl (C_X11_requireShelf (S := S) (d := d + 1) (z := z) (x1 := x1) u_0 u_10 u_11 hy1) rfl, H, rfl, u_10, u_11, u_12, u_13, u_14, xfr_refl⟩
    · skip
      refine go_step (F1 := (5, [some (.ref 0), some (.int x1), some (.int x2), some (.int x3), some (.int x4)], [])) (M1 := (H, z)) (fun _ => ev_callV (x := (.invokevirtual 226, 3, 150, 10, 811, .null)) (as := [.int x1]) (rest := []) rfl rfl u_0 (C_X11_requireShelf (S := S) (d := d + 1) (z := z) (x1 := x1) u_0 u_10 u_11 hy4) rfl) ?_
      refine go_step (fun _ => ev_run 3 (F' := (8, [some (.ref 0), some (.int x1), some (.int x2), some (.int x3), some (.int x4)], [.int x3, .int x2, .ref 0])) rfl) ?_
      rcases okx h with ⟨e6, y5, hy5, h⟩ | ⟨v7, y8, hy8, h⟩
      · skip
        obtain ⟨H9, hCH9, eH9_12, eH9_13, fH9⟩ := C_X11_takeBoth (S := S) (d := d) (z := z) (x1 := x2) (x2 := x3) u_0 u_10 u_11 u_12 u_13 hy5
        cases h
        exact Or.inr ⟨_, ev_callVX (x := (.invokevirtual 250, 3, 144, 10, 840, .null)) (as := [.int x2, .int x3]) (rest := []) rfl rfl u_0 rfl hCH9 rfl, H9, rfl, ((fH9 10 rfl).trans u_10), ((fH9 11 rfl).trans u_11), eH9_12, eH9_13, ((fH9 14 rfl).trans u_14), (xfr_t xfr_refl rfl fH9)⟩
      · skip
        obtain ⟨H10, hCH10, eH10_12, eH10_13, fH10⟩ := C_X11_takeBoth (S := S) (d := d) (z := z) (x1 := x2) (x2 := x3) u_0 u_10 u_11 u_12 u_13 hy8
        refine go_step (F1 := (11, [some (.ref 0), some (.int x1), some (.int x2), some (.int x3), some (.int x4)], [])) (M1 := (H10, z)) (fun _ => ev_callV (x := (.invokevirtual 250, 3, 144, 10, 840, .null)) (as := [.int x2, .int x3]) (rest := []) rfl rfl u_0 hCH10 rfl) ?_
        refine go_step (fun _ => ev_run 1 (F' := (13, [some (.ref 0), some (.int x1), some (.int x2), some (.int x3), some (.int x4)], [.int x4])) rfl) ?_
        refine go_if rfl (fun (b13 : x4 = (0 : Int32)) => ?_) (fun (b13 : ¬ (x4 = (0 : Int32))) => ?_)
        · have h := (if_pos b13).symm.trans h
          refine go_step (fun _ => ev_run 1 (F' := (69, [some (.ref 0), some (.int x1), some (.int x2), some (.int x3), some (.int x4)], [.int x4])) rfl) ?_
          refine go_if rfl (fun (b69 : x4 = (0 : Int32)) => ?_) (fun (b69 : ¬ (x4 = (0 : Int32))) => ?_)
          · have h := (if_pos b69).symm.trans h
            refine go_step (fun _ => ev_run 1 (F' := (91, [some (.ref 0), some (.int x1), some (.int x2), some (.int x3), some (.int x4)], [.ref 0])) rfl) ?_
            refine go_step (fun _ => ev_getf rfl ((fH10 0 rfl).trans u_0) rfl) ?_
            refine go_step (fun _ => ev_run 1 (F' := (95, [some (.ref 0), some (.int x1), some (.int x2), some (.int x3), some (.int x4)], [.ref 0, .ref 14])) rfl) ?_
            refine go_step (fun _ => ev_getf rfl ((fH10 0 rfl).trans u_0) rfl) ?_
            refine go_step (fun _ => ev_run 1 (F' := (99, [some (.ref 0), some (.int x1), some (.int x2), some (.int x3), some (.int x4)], [.ref 0, .ref 12, .ref 14])) rfl) ?_
            refine go_step (fun _ => ev_getf rfl ((fH10 0 rfl).trans u_0) rfl) ?_
            obtain ⟨H11, hCH11, eH11_14, fH11⟩ := C_X4_becomeSum (S := S) (d := d + 1) (z := z) eH10_12 eH10_13 ((fH10 14 rfl).trans u_14)
            refine go_step (F1 := (105, [some (.ref 0), some (.int x1), some (.int x2), some (.int x3), some (.int x4)], [])) (M1 := (H11, z)) (fun _ => ev_callV (x := (.invokevirtual 262, 3, 45, 3, 858, .null)) (as := [.ref 12, .ref 13]) (rest := []) rfl rfl ((fH10 14 rfl).trans u_14) hCH11 rfl) ?_
            refine go_step (fun _ => ev_run 3 (F' := (108, [some (.ref 0), some (.int x1), some (.int x2), some (.int x3), some (.int x4)], [.ref 0, .int x1, .ref 0])) rfl) ?_
            refine go_step (fun _ => ev_getf rfl ((fH11 0 rfl).trans ((fH10 0 rfl).trans u_0)) rfl) ?_
            obtain ⟨y12, hy12, h⟩ := okb h
            obtain ⟨H13, hCH13, eH13_10, eH13_11, fH13⟩ := C_X11_putOnShelf (S := S) (d := d) (z := z) (x1 := x1) ((fH11 0 rfl).trans ((fH10 0 rfl).trans u_0)) ((fH11 10 rfl).trans ((fH10 10 rfl).trans u_10)) ((fH11 11 rfl).trans ((fH10 11 rfl).trans u_11)) eH11_14 (nb rfl) (nb rfl) hy12
            refine go_step (F1 := (114, [some (.ref 0), some (.int x1), some (.int x2), some (.int x3), some (.int x4)], [.int y12.1])) (M1 := (H13, z)) (fun _ => ev_callV (x := (.invokevirtual 233, 3, 142, 10, 824, .null)) (as := [.int x1, .ref 14]) (rest := []) rfl rfl ((fH11 0 rfl).trans ((fH10 0 rfl).trans u_0)) hCH13 rfl) ?_
            cases h
            exact Or.inr ⟨_, ev_ret rfl rfl rfl rfl, H13, rfl, eH13_10, eH13_11, ((fH13 12 rfl).trans ((fH11 12 rfl).trans eH10_12)), ((fH13 13 rfl).trans ((fH11 13 rfl).trans eH10_13)), ((fH13 14 rfl).trans eH11_14), (xfr_t (xfr_t (xfr_t xfr_refl rfl fH10) rfl fH11) rfl fH13)⟩
          · have h := (if_neg b69).symm.trans h
            refine go_step (fun _ => ev_run 1 (F' := (73, [some (.ref 0), some (.int x1), some (.int x2), some (.int x3), some (.int x4)], [.ref 0])) rfl) ?_
            refine go_step (fun _ => ev_getf rfl ((fH10 0 rfl).trans u_0) rfl) ?_
            refine go_step (fun _ => ev_run 1 (F' := (77, [some (.ref 0), some (.int x1), some (.int x2), some (.int x3), some (.int x4)], [.ref 0, .ref 14])) rfl) ?_
            refine go_step (fun _ => ev_getf rfl ((fH10 0 rfl).trans u_0) rfl) ?_
            refine go_step (fun _ => ev_run 1 (F' := (81, [some (.ref 0), some (.int x1), some (.int x2), some (.int x3), some (.int x4)], [.ref 0, .ref 12, .ref 14])) rfl) ?_
            refine go_step (fun _ => ev_getf rfl ((fH10 0 rfl).trans u_0) rfl) ?_
            obtain ⟨y14, hy14, h⟩ := okb h
            obtain ⟨H15, hCH15, eH15_14, fH15⟩ := C_X4_becomeProduct (S := S) (d := d + 1) (z := z) ((fH10 14 rfl).trans u_14) eH10_12 eH10_13 hy14
            refine go_step (F1 := (87, [some (.ref 0), some (.int x1), some (.int x2), some (.int x3), some (.int x4)], [])) (M1 := (H15, z)) (fun _ => ev_callV (x := (.invokevirtual 258, 3, 46, 3, 849, .null)) (as := [.ref 12, .ref 13]) (rest := []) rfl rfl ((fH10 14 rfl).trans u_14) hCH15 rfl) ?_
            refine go_step (fun _ => ev_run 4 (F' := (108, [some (.ref 0), some (.int x1), some (.int x2), some (.int x3), some (.int x4)], [.ref 0, .int x1, .ref 0])) rfl) ?_
            refine go_step (fun _ => ev_getf rfl ((fH15 0 rfl).trans ((fH10 0 rfl).trans u_0)) rfl) ?_
            obtain ⟨y16, hy16, h⟩ := okb h
            obtain ⟨H17, hCH17, eH17_10, eH17_11, fH17⟩ := C_X11_putOnShelf (S := S) (d := d) (z := z) (x1 := x1) ((fH15 0 rfl).trans ((fH10 0 rfl).trans u_0)) ((fH15 10 rfl).trans ((fH10 10 rfl).trans u_10)) ((fH15 11 rfl).trans ((fH10 11 rfl).trans u_11)) eH15_14 (nb rfl) (nb rfl) hy16
            refine go_step (F1 := (114, [some (.ref 0), some (.int x1), some (.int x2), some (.int x3), some (.int x4)], [.int y16.1])) (M1 := (H17, z)) (fun _ => ev_callV (x := (.invokevirtual 233, 3, 142, 10, 824, .null)) (as := [.int x1, .ref 14]) (rest := []) rfl rfl ((fH15 0 rfl).trans ((fH10 0 rfl).trans u_0)) hCH17 rfl) ?_
            cases h
            exact Or.inr ⟨_, ev_ret rfl rfl rfl rfl, H17, rfl, eH17_10, eH17_11, ((fH17 12 rfl).trans ((fH15 12 rfl).trans eH10_12)), ((fH17 13 rfl).trans ((fH15 13 rfl).trans eH10_13)), ((fH17 14 rfl).trans eH15_14), (xfr_t (xfr_t (xfr_t xfr_refl rfl fH10) rfl fH15) rfl fH17)⟩
        · have h := (if_neg b13).symm.trans h
          refine go_step (fun _ => ev_run 1 (F' := (17, [some (.ref 0), some (.int x1), some (.int x2), some (.int x3), some (.int x4)], [.ref 0])) rfl) ?_
          refine go_step (fun _ => ev_getf rfl ((fH10 0 rfl).trans u_0) rfl) ?_
          obtain ⟨y18, hy18, h⟩ := okb h
          refine go_step (F1 := (23, [some (.ref 0), some (.int x1), some (.int x2), some (.int x3), some (.int x4)], [.int y18])) (M1 := (H10, z)) (fun _ => ev_callV (x := (.invokevirtual 253, 3, 43, 3, 828, .null)) (as := []) (rest := []) rfl rfl eH10_12 (C_X4_degree (S := S) (d := d + 1) (z := z) eH10_12 hy18) rfl) ?_
          refine go_if rfl (fun (b23 : y18 < (0 : Int32)) => ?_) (fun (b23 : ¬ (y18 < (0 : Int32))) => ?_)
          · have h := (if_pos b23).symm.trans h
            refine go_step (fun _ => ev_run 1 (F' := (69, [some (.ref 0), some (.int x1), some (.int x2), some (.int x3), some (.int x4)], [.int x4])) rfl) ?_
            refine go_if rfl (fun (b69 : x4 = (0 : Int32)) => ?_) (fun (b69 : ¬ (x4 = (0 : Int32))) => ?_)
            · have h := (if_pos b69).symm.trans h
              refine go_step (fun _ => ev_run 1 (F' := (91, [some (.ref 0), some (.int x1), some (.int x2), some (.int x3), some (.int x4)], [.ref 0])) rfl) ?_
              refine go_step (fun _ => ev_getf rfl ((fH10 0 rfl).trans u_0) rfl) ?_
              refine go_step (fun _ => ev_run 1 (F' := (95, [some (.ref 0), some (.int x1), some (.int x2), some (.int x3), some (.int x4)], [.ref 0, .ref 14])) rfl) ?_
              refine go_step (fun _ => ev_getf rfl ((fH10 0 rfl).trans u_0) rfl) ?_
              refine go_step (fun _ => ev_run 1 (F' := (99, [some (.ref 0), some (.int x1), some (.int x2), some (.int x3), some (.int x4)], [.ref 0, .ref 12, .ref 14])) rfl) ?_
              refine go_step (fun _ => ev_getf rfl ((fH10 0 rfl).trans u_0) rfl) ?_
              obtain ⟨H19, hCH19, eH19_14, fH19⟩ := C_X4_becomeSum (S := S) (d := d + 1) (z := z) eH10_12 eH10_13 ((fH10 14 rfl).trans u_14)
              refine go_step (F1 := (105, [some (.ref 0), some (.int x1), some (.int x2), some (.int x3), some (.int x4)], [])) (M1 := (H19, z)) (fun _ => ev_callV (x := (.invokevirtual 262, 3, 45, 3, 858, .null)) (as := [.ref 12, .ref 13]) (rest := []) rfl rfl ((fH10 14 rfl).trans u_14) hCH19 rfl) ?_
              refine go_step (fun _ => ev_run 3 (F' := (108, [some (.ref 0), some (.int x1), some (.int x2), some (.int x3), some (.int x4)], [.ref 0, .int x1, .ref 0])) rfl) ?_
              refine go_step (fun _ => ev_getf rfl ((fH19 0 rfl).trans ((fH10 0 rfl).trans u_0)) rfl) ?_
              obtain ⟨y20, hy20, h⟩ := okb h
              obtain ⟨H21, hCH21, eH21_10, eH21_11, fH21⟩ := C_X11_putOnShelf (S := S) (d := d) (z := z) (x1 := x1) ((fH19 0 rfl).trans ((fH10 0 rfl).trans u_0)) ((fH19 10 rfl).trans ((fH10 10 rfl).trans u_10)) ((fH19 11 rfl).trans ((fH10 11 rfl).trans u_11)) eH19_14 (nb rfl) (nb rfl) hy20
              refine go_step (F1 := (114, [some (.ref 0), some (.int x1), some (.int x2), some (.int x3), some (.int x4)], [.int y20.1])) (M1 := (H21, z)) (fun _ => ev_callV (x := (.invokevirtual 233, 3, 142, 10, 824, .null)) (as := [.int x1, .ref 14]) (rest := []) rfl rfl ((fH19 0 rfl).trans ((fH10 0 rfl).trans u_0)) hCH21 rfl) ?_
              cases h
              exact Or.inr ⟨_, ev_ret rfl rfl rfl rfl, H21, rfl, eH21_10, eH21_11, ((fH21 12 rfl).trans ((fH19 12 rfl).trans eH10_12)), ((fH21 13 rfl).trans ((fH19 13 rfl).trans eH10_13)), ((fH21 14 rfl).trans eH19_14), (xfr_t (xfr_t (xfr_t xfr_refl rfl fH10) rfl fH19) rfl fH21)⟩
            · have h := (if_neg b69).symm.trans h
              refine go_step (fun _ => ev_run 1 (F' := (73, [some (.ref 0), some (.int x1), some (.int x2), some (.int x3), some (.int x4)], [.ref 0])) rfl) ?_
              refine go_step (fun _ => ev_getf rfl ((fH10 0 rfl).trans u_0) rfl) ?_
              refine go_step (fun _ => ev_run 1 (F' := (77, [some (.ref 0), some (.int x1), some (.int x2), some (.int x3), some (.int x4)], [.ref 0, .ref 14])) rfl) ?_
              refine go_step (fun _ => ev_getf rfl ((fH10 0 rfl).trans u_0) rfl) ?_
              refine go_step (fun _ => ev_run 1 (F' := (81, [some (.ref 0), some (.int x1), some (.int x2), some (.int x3), some (.int x4)], [.ref 0, .ref 12, .ref 14])) rfl) ?_
              refine go_step (fun _ => ev_getf rfl ((fH10 0 rfl).trans u_0) rfl) ?_
              obtain ⟨y22, hy22, h⟩ := okb h
              obtain ⟨H23, hCH23, eH23_14, fH23⟩ := C_X4_becomeProduct (S := S) (d := d + 1) (z := z) ((fH10 14 rfl).trans u_14) eH10_12 eH10_13 hy22
              refine go_step (F1 := (87, [some (.ref 0), some (.int x1), some (.int x2), some (.int x3), some (.int x4)], [])) (M1 := (H23, z)) (fun _ => ev_callV (x := (.invokevirtual 258, 3, 46, 3, 849, .null)) (as := [.ref 12, .ref 13]) (rest := []) rfl rfl ((fH10 14 rfl).trans u_14) hCH23 rfl) ?_
              refine go_step (fun _ => ev_run 4 (F' := (108, [some (.ref 0), some (.int x1), some (.int x2), some (.int x3), some (.int x4)], [.ref 0, .int x1, .ref 0])) rfl) ?_
              refine go_step (fun _ => ev_getf rfl ((fH23 0 rfl).trans ((fH10 0 rfl).trans u_0)) rfl) ?_
              obtain ⟨y24, hy24, h⟩ := okb h
              obtain ⟨H25, hCH25, eH25_10, eH25_11, fH25⟩ := C_X11_putOnShelf (S := S) (d := d) (z := z) (x1 := x1) ((fH23 0 rfl).trans ((fH10 0 rfl).trans u_0)) ((fH23 10 rfl).trans ((fH10 10 rfl).trans u_10)) ((fH23 11 rfl).trans ((fH10 11 rfl).trans u_11)) eH23_14 (nb rfl) (nb rfl) hy24
              refine go_step (F1 := (114, [some (.ref 0), some (.int x1), some (.int x2), some (.int x3), some (.int x4)], [.int y24.1])) (M1 := (H25, z)) (fun _ => ev_callV (x := (.invokevirtual 233, 3, 142, 10, 824, .null)) (as := [.int x1, .ref 14]) (rest := []) rfl rfl ((fH23 0 rfl).trans ((fH10 0 rfl).trans u_0)) hCH25 rfl) ?_
              cases h
              exact Or.inr ⟨_, ev_ret rfl rfl rfl rfl, H25, rfl, eH25_10, eH25_11, ((fH25 12 rfl).trans ((fH23 12 rfl).trans eH10_12)), ((fH25 13 rfl).trans ((fH23 13 rfl).trans eH10_13)), ((fH25 14 rfl).trans eH23_14), (xfr_t (xfr_t (xfr_t xfr_refl rfl fH10) rfl fH23) rfl fH25)⟩
          · have h := (if_neg b23).symm.trans h
            refine go_step (fun _ => ev_run 1 (F' := (27, [some (.ref 0), some (.int x1), some (.int x2), some (.int x3), some (.int x4)], [.ref 0])) rfl) ?_
            refine go_step (fun _ => ev_getf rfl ((fH10 0 rfl).trans u_0) rfl) ?_
            obtain ⟨y26, hy26, h⟩ := okb h
            refine go_step (F1 := (33, [some (.ref 0), some (.int x1), some (.int x2), some (.int x3), some (.int x4)], [.int y26])) (M1 := (H10, z)) (fun _ => ev_callV (x := (.invokevirtual 253, 3, 43, 3, 828, .null)) (as := []) (rest := []) rfl rfl eH10_13 (C_X4_degree (S := S) (d := d + 1) (z := z) eH10_13 hy26) rfl) ?_
            refine go_if rfl (fun (b33 : y26 < (0 : Int32)) => ?_) (fun (b33 : ¬ (y26 < (0 : Int32))) => ?_)
            · have h := (if_pos b33).symm.trans h
              refine go_step (fun _ => ev_run 1 (F' := (69, [some (.ref 0), some (.int x1), some (.int x2), some (.int x3), some (.int x4)], [.int x4])) rfl) ?_
              refine go_if rfl (fun (b69 : x4 = (0 : Int32)) => ?_) (fun (b69 : ¬ (x4 = (0 : Int32))) => ?_)
              · have h := (if_pos b69).symm.trans h
                refine go_step (fun _ => ev_run 1 (F' := (91, [some (.ref 0), some (.int x1), some (.int x2), some (.int x3), some (.int x4)], [.ref 0])) rfl) ?_
                refine go_step (fun _ => ev_getf rfl ((fH10 0 rfl).trans u_0) rfl) ?_
                refine go_step (fun _ => ev_run 1 (F' := (95, [some (.ref 0), some (.int x1), some (.int x2), some (.int x3), some (.int x4)], [.ref 0, .ref 14])) rfl) ?_
                refine go_step (fun _ => ev_getf rfl ((fH10 0 rfl).trans u_0) rfl) ?_
                refine go_step (fun _ => ev_run 1 (F' := (99, [some (.ref 0), some (.int x1), some (.int x2), some (.int x3), some (.int x4)], [.ref 0, .ref 12, .ref 14])) rfl) ?_
                refine go_step (fun _ => ev_getf rfl ((fH10 0 rfl).trans u_0) rfl) ?_
                obtain ⟨H27, hCH27, eH27_14, fH27⟩ := C_X4_becomeSum (S := S) (d := d + 1) (z := z) eH10_12 eH10_13 ((fH10 14 rfl).trans u_14)
                refine go_step (F1 := (105, [some (.ref 0), some (.int x1), some (.int x2), some (.int x3), some (.int x4)], [])) (M1 := (H27, z)) (fun _ => ev_callV (x := (.invokevirtual 262, 3, 45, 3, 858, .null)) (as := [.ref 12, .ref 13]) (rest := []) rfl rfl ((fH10 14 rfl).trans u_14) hCH27 rfl) ?_
                refine go_step (fun _ => ev_run 3 (F' := (108, [some (.ref 0), some (.int x1), some (.int x2), some (.int x3), some (.int x4)], [.ref 0, .int x1, .ref 0])) rfl) ?_
                refine go_step (fun _ => ev_getf rfl ((fH27 0 rfl).trans ((fH10 0 rfl).trans u_0)) rfl) ?_
                obtain ⟨y28, hy28, h⟩ := okb h
                obtain ⟨H29, hCH29, eH29_10, eH29_11, fH29⟩ := C_X11_putOnShelf (S := S) (d := d) (z := z) (x1 := x1) ((fH27 0 rfl).trans ((fH10 0 rfl).trans u_0)) ((fH27 10 rfl).trans ((fH10 10 rfl).trans u_10)) ((fH27 11 rfl).trans ((fH10 11 rfl).trans u_11)) eH27_14 (nb rfl) (nb rfl) hy28
                refine go_step (F1 := (114, [some (.ref 0), some (.int x1), some (.int x2), some (.int x3), some (.int x4)], [.int y28.1])) (M1 := (H29, z)) (fun _ => ev_callV (x := (.invokevirtual 233, 3, 142, 10, 824, .null)) (as := [.int x1, .ref 14]) (rest := []) rfl rfl ((fH27 0 rfl).trans ((fH10 0 rfl).trans u_0)) hCH29 rfl) ?_
                cases h
                exact Or.inr ⟨_, ev_ret rfl rfl rfl rfl, H29, rfl, eH29_10, eH29_11, ((fH29 12 rfl).trans ((fH27 12 rfl).trans eH10_12)), ((fH29 13 rfl).trans ((fH27 13 rfl).trans eH10_13)), ((fH29 14 rfl).trans eH27_14), (xfr_t (xfr_t (xfr_t xfr_refl rfl fH10) rfl fH27) rfl fH29)⟩
              · have h := (if_neg b69).symm.trans h
                refine go_step (fun _ => ev_run 1 (F' := (73, [some (.ref 0), some (.int x1), some (.int x2), some (.int x3), some (.int x4)], [.ref 0])) rfl) ?_
                refine go_step (fun _ => ev_getf rfl ((fH10 0 rfl).trans u_0) rfl) ?_
                refine go_step (fun _ => ev_run 1 (F' := (77, [some (.ref 0), some (.int x1), some (.int x2), some (.int x3), some (.int x4)], [.ref 0, .ref 14])) rfl) ?_
                refine go_step (fun _ => ev_getf rfl ((fH10 0 rfl).trans u_0) rfl) ?_
                refine go_step (fun _ => ev_run 1 (F' := (81, [some (.ref 0), some (.int x1), some (.int x2), some (.int x3), some (.int x4)], [.ref 0, .ref 12, .ref 14])) rfl) ?_
                refine go_step (fun _ => ev_getf rfl ((fH10 0 rfl).trans u_0) rfl) ?_
                obtain ⟨y30, hy30, h⟩ := okb h
                obtain ⟨H31, hCH31, eH31_14, fH31⟩ := C_X4_becomeProduct (S := S) (d := d + 1) (z := z) ((fH10 14 rfl).trans u_14) eH10_12 eH10_13 hy30
                refine go_step (F1 := (87, [some (.ref 0), some (.int x1), some (.int x2), some (.int x3), some (.int x4)], [])) (M1 := (H31, z)) (fun _ => ev_callV (x := (.invokevirtual 258, 3, 46, 3, 849, .null)) (as := [.ref 12, .ref 13]) (rest := []) rfl rfl ((fH10 14 rfl).trans u_14) hCH31 rfl) ?_
                refine go_step (fun _ => ev_run 4 (F' := (108, [some (.ref 0), some (.int x1), some (.int x2), some (.int x3), some (.int x4)], [.ref 0, .int x1, .ref 0])) rfl) ?_
                refine go_step (fun _ => ev_getf rfl ((fH31 0 rfl).trans ((fH10 0 rfl).trans u_0)) rfl) ?_
                obtain ⟨y32, hy32, h⟩ := okb h
                obtain ⟨H33, hCH33, eH33_10, eH33_11, fH33⟩ := C_X11_putOnShelf (S := S) (d := d) (z := z) (x1 := x1) ((fH31 0 rfl).trans ((fH10 0 rfl).trans u_0)) ((fH31 10 rfl).trans ((fH10 10 rfl).trans u_10)) ((fH31 11 rfl).trans ((fH10 11 rfl).trans u_11)) eH31_14 (nb rfl) (nb rfl) hy32
                refine go_step (F1 := (114, [some (.ref 0), some (.int x1), some (.int x2), some (.int x3), some (.int x4)], [.int y32.1])) (M1 := (H33, z)) (fun _ => ev_callV (x := (.invokevirtual 233, 3, 142, 10, 824, .null)) (as := [.int x1, .ref 14]) (rest := []) rfl rfl ((fH31 0 rfl).trans ((fH10 0 rfl).trans u_0)) hCH33 rfl) ?_
                cases h
                exact Or.inr ⟨_, ev_ret rfl rfl rfl rfl, H33, rfl, eH33_10, eH33_11, ((fH33 12 rfl).trans ((fH31 12 rfl).trans eH10_12)), ((fH33 13 rfl).trans ((fH31 13 rfl).trans eH10_13)), ((fH33 14 rfl).trans eH31_14), (xfr_t (xfr_t (xfr_t xfr_refl rfl fH10) rfl fH31) rfl fH33)⟩
            · have h := (if_neg b33).symm.trans h
              refine go_step (fun _ => ev_run 1 (F' := (37, [some (.ref 0), some (.int x1), some (.int x2), some (.int x3), some (.int x4)], [.ref 0])) rfl) ?_
              refine go_step (fun _ => ev_getf rfl ((fH10 0 rfl).trans u_0) rfl) ?_
              obtain ⟨y34, hy34, h⟩ := okb h
              refine go_step (F1 := (43, [some (.ref 0), some (.int x1), some (.int x2), some (.int x3), some (.int x4)], [.int y34])) (M1 := (H10, z)) (fun _ => ev_callV (x := (.invokevirtual 253, 3, 43, 3, 828, .null)) (as := []) (rest := []) rfl rfl eH10_12 (C_X4_degree (S := S) (d := d + 1) (z := z) eH10_12 hy34) rfl) ?_
              refine go_step (fun _ => ev_run 1 (F' := (44, [some (.ref 0), some (.int x1), some (.int x2), some (.int x3), some (.int x4)], [.ref 0, .int y34])) rfl) ?_
              refine go_step (fun _ => ev_getf rfl ((fH10 0 rfl).trans u_0) rfl) ?_
              obtain ⟨y35, hy35, h⟩ := okb h
              refine go_step (F1 := (50, [some (.ref 0), some (.int x1), some (.int x2), some (.int x3), some (.int x4)], [.int y35, .int y34])) (M1 := (H10, z)) (fun _ => ev_callV (x := (.invokevirtual 253, 3, 43, 3, 828, .null)) (as := []) (rest := [.int y34]) rfl rfl eH10_13 (C_X4_degree (S := S) (d := d + 1) (z := z) eH10_13 hy35) rfl) ?_
              refine go_step (fun _ => ev_run 2 (F' := (53, [some (.ref 0), some (.int x1), some (.int x2), some (.int x3), some (.int x4)], [.int (95 : Int32), .int (y34 + y35)])) rfl) ?_
              refine go_icmp rfl (fun (b53 : (y34 + y35) ≤ (95 : Int32)) => ?_) (fun (b53 : ¬ ((y34 + y35) ≤ (95 : Int32))) => ?_)
              · have h := (if_pos b53).symm.trans h
                refine go_step (fun _ => ev_run 1 (F' := (69, [some (.ref 0), some (.int x1), some (.int x2), some (.int x3), some (.int x4)], [.int x4])) rfl) ?_
                refine go_if rfl (fun (b69 : x4 = (0 : Int32)) => ?_) (fun (b69 : ¬ (x4 = (0 : Int32))) => ?_)
                · have h := (if_pos b69).symm.trans h
                  refine go_step (fun _ => ev_run 1 (F' := (91, [some (.ref 0), some (.int x1), some (.int x2), some (.int x3), some (.int x4)], [.ref 0])) rfl) ?_
                  refine go_step (fun _ => ev_getf rfl ((fH10 0 rfl).trans u_0) rfl) ?_
                  refine go_step (fun _ => ev_run 1 (F' := (95, [some (.ref 0), some (.int x1), some (.int x2), some (.int x3), some (.int x4)], [.ref 0, .ref 14])) rfl) ?_
                  refine go_step (fun _ => ev_getf rfl ((fH10 0 rfl).trans u_0) rfl) ?_
                  refine go_step (fun _ => ev_run 1 (F' := (99, [some (.ref 0), some (.int x1), some (.int x2), some (.int x3), some (.int x4)], [.ref 0, .ref 12, .ref 14])) rfl) ?_
                  refine go_step (fun _ => ev_getf rfl ((fH10 0 rfl).trans u_0) rfl) ?_
                  obtain ⟨H36, hCH36, eH36_14, fH36⟩ := C_X4_becomeSum (S := S) (d := d + 1) (z := z) eH10_12 eH10_13 ((fH10 14 rfl).trans u_14)
                  refine go_step (F1 := (105, [some (.ref 0), some (.int x1), some (.int x2), some (.int x3), some (.int x4)], [])) (M1 := (H36, z)) (fun _ => ev_callV (x := (.invokevirtual 262, 3, 45, 3, 858, .null)) (as := [.ref 12, .ref 13]) (rest := []) rfl rfl ((fH10 14 rfl).trans u_14) hCH36 rfl) ?_
                  refine go_step (fun _ => ev_run 3 (F' := (108, [some (.ref 0), some (.int x1), some (.int x2), some (.int x3), some (.int x4)], [.ref 0, .int x1, .ref 0])) rfl) ?_
                  refine go_step (fun _ => ev_getf rfl ((fH36 0 rfl).trans ((fH10 0 rfl).trans u_0)) rfl) ?_
                  obtain ⟨y37, hy37, h⟩ := okb h
                  obtain ⟨H38, hCH38, eH38_10, eH38_11, fH38⟩ := C_X11_putOnShelf (S := S) (d := d) (z := z) (x1 := x1) ((fH36 0 rfl).trans ((fH10 0 rfl).trans u_0)) ((fH36 10 rfl).trans ((fH10 10 rfl).trans u_10)) ((fH36 11 rfl).trans ((fH10 11 rfl).trans u_11)) eH36_14 (nb rfl) (nb rfl) hy37
                  refine go_step (F1 := (114, [some (.ref 0), some (.int x1), some (.int x2), some (.int x3), some (.int x4)], [.int y37.1])) (M1 := (H38, z)) (fun _ => ev_callV (x := (.invokevirtual 233, 3, 142, 10, 824, .null)) (as := [.int x1, .ref 14]) (rest := []) rfl rfl ((fH36 0 rfl).trans ((fH10 0 rfl).trans u_0)) hCH38 rfl) ?_
                  cases h
                  exact Or.inr ⟨_, ev_ret rfl rfl rfl rfl, H38, rfl, eH38_10, eH38_11, ((fH38 12 rfl).trans ((fH36 12 rfl).trans eH10_12)), ((fH38 13 rfl).trans ((fH36 13 rfl).trans eH10_13)), ((fH38 14 rfl).trans eH36_14), (xfr_t (xfr_t (xfr_t xfr_refl rfl fH10) rfl fH36) rfl fH38)⟩
                · have h := (if_neg b69).symm.trans h
                  refine go_step (fun _ => ev_run 1 (F' := (73, [some (.ref 0), some (.int x1), some (.int x2), some (.int x3), some (.int x4)], [.ref 0])) rfl) ?_
                  refine go_step (fun _ => ev_getf rfl ((fH10 0 rfl).trans u_0) rfl) ?_
                  refine go_step (fun _ => ev_run 1 (F' := (77, [some (.ref 0), some (.int x1), some (.int x2), some (.int x3), some (.int x4)], [.ref 0, .ref 14])) rfl) ?_
                  refine go_step (fun _ => ev_getf rfl ((fH10 0 rfl).trans u_0) rfl) ?_
                  refine go_step (fun _ => ev_run 1 (F' := (81, [some (.ref 0), some (.int x1), some (.int x2), some (.int x3), some (.int x4)], [.ref 0, .ref 12, .ref 14])) rfl) ?_
                  refine go_step (fun _ => ev_getf rfl ((fH10 0 rfl).trans u_0) rfl) ?_
                  obtain ⟨y39, hy39, h⟩ := okb h
                  obtain ⟨H40, hCH40, eH40_14, fH40⟩ := C_X4_becomeProduct (S := S) (d := d + 1) (z := z) ((fH10 14 rfl).trans u_14) eH10_12 eH10_13 hy39
                  refine go_step (F1 := (87, [some (.ref 0), some (.int x1), some (.int x2), some (.int x3), some (.int x4)], [])) (M1 := (H40, z)) (fun _ => ev_callV (x := (.invokevirtual 258, 3, 46, 3, 849, .null)) (as := [.ref 12, .ref 13]) (rest := []) rfl rfl ((fH10 14 rfl).trans u_14) hCH40 rfl) ?_
                  refine go_step (fun _ => ev_run 4 (F' := (108, [some (.ref 0), some (.int x1), some (.int x2), some (.int x3), some (.int x4)], [.ref 0, .int x1, .ref 0])) rfl) ?_
                  refine go_step (fun _ => ev_getf rfl ((fH40 0 rfl).trans ((fH10 0 rfl).trans u_0)) rfl) ?_
                  obtain ⟨y41, hy41, h⟩ := okb h
                  obtain ⟨H42, hCH42, eH42_10, eH42_11, fH42⟩ := C_X11_putOnShelf (S := S) (d := d) (z := z) (x1 := x1) ((fH40 0 rfl).trans ((fH10 0 rfl).trans u_0)) ((fH40 10 rfl).trans ((fH10 10 rfl).trans u_10)) ((fH40 11 rfl).trans ((fH10 11 rfl).trans u_11)) eH40_14 (nb rfl) (nb rfl) hy41
                  refine go_step (F1 := (114, [some (.ref 0), some (.int x1), some (.int x2), some (.int x3), some (.int x4)], [.int y41.1])) (M1 := (H42, z)) (fun _ => ev_callV (x := (.invokevirtual 233, 3, 142, 10, 824, .null)) (as := [.int x1, .ref 14]) (rest := []) rfl rfl ((fH40 0 rfl).trans ((fH10 0 rfl).trans u_0)) hCH42 rfl) ?_
                  cases h
                  exact Or.inr ⟨_, ev_ret rfl rfl rfl rfl, H42, rfl, eH42_10, eH42_11, ((fH42 12 rfl).trans ((fH40 12 rfl).trans eH10_12)), ((fH42 13 rfl).trans ((fH40 13 rfl).trans eH10_13)), ((fH42 14 rfl).trans eH40_14), (xfr_t (xfr_t (xfr_t xfr_refl rfl fH10) rfl fH40) rfl fH42)⟩
              · have h := (if_neg b53).symm.trans h
                cases h
                exact Or.inr ⟨_, ev_throw rfl rfl rfl rfl, H10, rfl, ((fH10 10 rfl).trans u_10), ((fH10 11 rfl).trans u_11), eH10_12, eH10_13, ((fH10 14 rfl).trans u_14), (xfr_t xfr_refl rfl fH10)⟩
  obtain ⟨_, hE, H', rfl, hrest⟩ := go_end G
  exact ⟨H', hE, hrest⟩
def q_X11_divide (x1 : Int32) (x2 : Int32) (x3 : Int32) (x4 : Int32) (a10 : Nat → Int64) (a11 : Nat → Int64) (c12_0 : Int64) (c12_1 : Int64) (c13_0 : Int64) (c13_1 : Int64) (c14_0 : Int64) (c14_1 : Int64) : Option ((Nat ⊕ Int32) × ((Nat → Int64) × (Nat → Int64) × Int64 × Int64 × Int64 × Int64 × Int64 × Int64)) := (xbnd (q_X11_requireShelf x1) (fun e2 y1 => (some (Sum.inl e2, (a10, a11, c12_0, c12_1, c13_0, c13_1, c14_0, c14_1)))) (fun v3 y4 => (xbnd (q_X11_requireShelf x2) (fun e6 y5 => (some (Sum.inl e6, (a10, a11, c12_0, c12_1, c13_0, c13_1, c14_0, c14_1)))) (fun v7 y8 => (xbnd (q_X11_takeBoth x3 x4 a10 a11 c12_0 c12_1 c13_0 c13_1) (fun e10 y9 => (some (Sum.inl e10, (a10, a11, y9.1, y9.2.1, y9.2.2.1, y9.2.2.2, c14_0, c14_1)))) (fun v11 y12 => (if ¬ x1 = x2 then (if (t_X4_isZero y12.2.2.1 y12.2.2.2) = (0 : Int32) then ((q_X4_leaveRest y12.2.2.1 y12.2.2.2 y12.1 y12.2.1).bind (fun y15 => ((q_X11_putOnShelf x1 a10 a11 y15.1 y15.2.1).bind (fun y17 => ((q_X11_putOnShelf x2 y17.2.1 y17.2.2 y15.2.2.1 y15.2.2.2).bind (fun y19 => (some (Sum.inr y19.1, (y19.2.1, y19.2.2, y15.2.2.1, y15.2.2.2, y12.2.2.1, y12.2.2.2, y15.1, y15.2.1))))))))) else (some (Sum.inl 4, (a10, a11, y12.1, y12.2.1, y12.2.2.1, y12.2.2.2, c14_0, c14_1)))) else (some (Sum.inl 0, (a10, a11, y12.1, y12.2.1, y12.2.2.1, y12.2.2.2, c14_0, c14_1))))))))))
theorem C_X11_divide {S : Nat × (Nat → Int32)} {d : Nat} {H : List xE} {z : Bool × Nat × Nat} {a10 : Nat → Int64} {a11 : Nat → Int64} {c12_0 : Int64} {c12_1 : Int64} {c13_0 : Int64} {c13_1 : Int64} {c14_0 : Int64} {c14_1 : Int64} {x1 : Int32} {x2 : Int32} {x3 : Int32} {x4 : Int32} (u_0 : H[0]? = some (oO)) (u_10 : H[10]? = some (.inl (1, 8, .inr (.inl a10)))) (u_11 : H[11]? = some (.inl (1, 8, .inr (.inl a11)))) (u_12 : H[12]? = some (.inr (3, [.long c12_0, .long c12_1]))) (u_13 : H[13]? = some (.inr (3, [.long c13_0, .long c13_1]))) (u_14 : H[14]? = some (.inr (3, [.long c14_0, .long c14_1]))) {x : ((Nat ⊕ Int32) × ((Nat → Int64) × (Nat → Int64) × Int64 × Int64 × Int64 × Int64 × Int64 × Int64))} (h : q_X11_divide x1 x2 x3 x4 a10 a11 c12_0 c12_1 c13_0 c13_1 c14_0 c14_1 = some x) : ∃ H' : List xE, Cm S (d + 3) 115 [.ref 0, .int x1, .int x2, .int x3, .int x4] (H, z) (oI x.1, (H', oZ x.1 z)) ∧ H'[10]? = some (.inl (1, 8, .inr (.inl x.2.1))) ∧ H'[11]? = some (.inl (1, 8, .inr (.inl x.2.2.1))) ∧ H'[12]? = some (.inr (3, [.long x.2.2.2.1, .long x.2.2.2.2.1])) ∧ H'[13]? = some (.inr (3, [.long x.2.2.2.2.2.1, .long x.2.2.2.2.2.2.1])) ∧ H'[14]? = some (.inr (3, [.long x.2.2.2.2.2.2.2.1, .long x.2.2.2.2.2.2.2.2])) ∧ xfr [10, 11, 12, 13, 14] H H' := by
  have G : Go S (d + 3) 115 (0, [some (.ref 0), some (.int x1), some (.int x2), some (.int x3), some (.int x4)], []) (H, z) (fun _ _ => False) (fun r => ∃ H' : List xE, r = (oI x.1, (H', oZ x.1 z)) ∧ H'[10]? = some (.inl (1, 8, .inr (.inl x.2.1))) ∧ H'[11]? = some (.inl (1, 8, .inr (.inl x.2.2.1))) ∧ H'[12]? = some (.inr (3, [.long x.2.2.2.1, .long x.2.2.2.2.1])) ∧ H'[13]? = some (.inr (3, [.long x.2.2.2.2.2.1, .long x.2.2.2.2.2.2.1])) ∧ H'[14]? = some (.inr (3, [.long x.2.2.2.2.2.2.2.1, .long x.2.2.2.2.2.2.2.2])) ∧ xfr [10, 11, 12, 13, 14] H H') := by
    unfold q_X11_divide at h
    refine go_step (fun _ => ev_run 2 (F' := (2, [some (.ref 0), some (.int x1), some (.int x2), some (.int x3), some (.int x4)], [.int x1, .ref 0])) rfl) ?_
    rcases okx h with ⟨e2, y1, hy1, h⟩ | ⟨v3, y4, hy4, h⟩
    · skip
      cases h
      exact Or.inr ⟨_, ev_callVX (x := (.invokevirtual 226, 3, 150, 10, 811, .null)) (as := [.int x1]) (rest := []) rfl rfl u_0 rfl (C_X11_requireShelf (S := S) (d := d + 1) (z := z) (x1 := x1) u_0 u_10 u_11 hy1) rfl, H, rfl, u_10, u_11, u_12, u_13, u_14, xfr_refl⟩
    · skip
      refine go_step (F1 := (5, [some (.ref 0), some (.int x1), some (.int x2), some (.int x3), some (.int x4)], [])) (M1 := (H, z)) (fun _ => ev_callV (x := (.invokevirtual 226, 3, 150, 10, 811, .null)) (as := [.int x1]) (rest := []) rfl rfl u_0 (C_X11_requireShelf (S := S) (d := d + 1) (z := z) (x1 := x1) u_0 u_10 u_11 hy4) rfl) ?_
      refine go_step (fun _ => ev_run 2 (F' := (7, [some (.ref 0), some (.int x1), some (.int x2), some (.int x3), some (.int x4)], [.int x2, .ref 0])) rfl) ?_
      rcases okx h with ⟨e6, y5, hy5, h⟩ | ⟨v7, y8, hy8, h⟩
      · skip
        cases h
        exact Or.inr ⟨_, ev_callVX (x := (.invokevirtual 226, 3, 150, 10, 811, .null)) (as := [.int x2]) (rest := []) rfl rfl u_0 rfl (C_X11_requireShelf (S := S) (d := d + 1) (z := z) (x1 := x2) u_0 u_10 u_11 hy5) rfl, H, rfl, u_10, u_11, u_12, u_13, u_14, xfr_refl⟩
      · skip
        refine go_step (F1 := (10, [some (.ref 0), some (.int x1), some (.int x2), some (.int x3), some (.int x4)], [])) (M1 := (H, z)) (fun _ => ev_callV (x := (.invokevirtual 226, 3, 150, 10, 811, .null)) (as := [.int x2]) (rest := []) rfl rfl u_0 (C_X11_requireShelf (S := S) (d := d + 1) (z := z) (x1 := x2) u_0 u_10 u_11 hy8) rfl) ?_
        refine go_step (fun _ => ev_run 3 (F' := (14, [some (.ref 0), some (.int x1), some (.int x2), some (.int x3), some (.int x4)], [.int x4, .int x3, .ref 0])) rfl) ?_
        rcases okx h with ⟨e10, y9, hy9, h⟩ | ⟨v11, y12, hy12, h⟩
        · skip
          obtain ⟨H13, hCH13, eH13_12, eH13_13, fH13⟩ := C_X11_takeBoth (S := S) (d := d) (z := z) (x1 := x3) (x2 := x4) u_0 u_10 u_11 u_12 u_13 hy9
          cases h
          exact Or.inr ⟨_, ev_callVX (x := (.invokevirtual 250, 3, 144, 10, 840, .null)) (as := [.int x3, .int x4]) (rest := []) rfl rfl u_0 rfl hCH13 rfl, H13, rfl, ((fH13 10 rfl).trans u_10), ((fH13 11 rfl).trans u_11), eH13_12, eH13_13, ((fH13 14 rfl).trans u_14), (xfr_t xfr_refl rfl fH13)⟩
        · skip
          obtain ⟨H14, hCH14, eH14_12, eH14_13, fH14⟩ := C_X11_takeBoth (S := S) (d := d) (z := z) (x1 := x3) (x2 := x4) u_0 u_10 u_11 u_12 u_13 hy12
          refine go_step (F1 := (17, [some (.ref 0), some (.int x1), some (.int x2), some (.int x3), some (.int x4)], [])) (M1 := (H14, z)) (fun _ => ev_callV (x := (.invokevirtual 250, 3, 144, 10, 840, .null)) (as := [.int x3, .int x4]) (rest := []) rfl rfl u_0 hCH14 rfl) ?_
          refine go_step (fun _ => ev_run 2 (F' := (19, [some (.ref 0), some (.int x1), some (.int x2), some (.int x3), some (.int x4)], [.int x2, .int x1])) rfl) ?_
          refine go_icmp rfl (fun (b19 : ¬ x1 = x2) => ?_) (fun (b19 : ¬ (¬ x1 = x2)) => ?_)
          · have h := (if_pos b19).symm.trans h
            refine go_step (fun _ => ev_run 1 (F' := (34, [some (.ref 0), some (.int x1), some (.int x2), some (.int x3), some (.int x4)], [.ref 0])) rfl) ?_
            refine go_step (fun _ => ev_getf rfl ((fH14 0 rfl).trans u_0) rfl) ?_
            refine go_step (F1 := (40, [some (.ref 0), some (.int x1), some (.int x2), some (.int x3), some (.int x4)], [.int (t_X4_isZero y12.2.2.1 y12.2.2.2)])) (M1 := (H14, z)) (fun _ => ev_callV (x := (.invokevirtual 267, 3, 42, 3, 883, .null)) (as := []) (rest := []) rfl rfl eH14_13 (C_X4_isZero (S := S) (d := d + 2) (z := z) eH14_13) rfl) ?_
            refine go_if rfl (fun (b40 : (t_X4_isZero y12.2.2.1 y12.2.2.2) = (0 : Int32)) => ?_) (fun (b40 : ¬ ((t_X4_isZero y12.2.2.1 y12.2.2.2) = (0 : Int32))) => ?_)
            · have h := (if_pos b40).symm.trans h
              refine go_step (fun _ => ev_run 1 (F' := (55, [some (.ref 0), some (.int x1), some (.int x2), some (.int x3), some (.int x4)], [.ref 0])) rfl) ?_
              refine go_step (fun _ => ev_getf rfl ((fH14 0 rfl).trans u_0) rfl) ?_
              refine go_step (fun _ => ev_run 1 (F' := (59, [some (.ref 0), some (.int x1), some (.int x2), some (.int x3), some (.int x4)], [.ref 0, .ref 12])) rfl) ?_
              refine go_step (fun _ => ev_getf rfl ((fH14 0 rfl).trans u_0) rfl) ?_
              refine go_step (fun _ => ev_run 1 (F' := (63, [some (.ref 0), some (.int x1), some (.int x2), some (.int x3), some (.int x4)], [.ref 0, .ref 13, .ref 12])) rfl) ?_
              refine go_step (fun _ => ev_getf rfl ((fH14 0 rfl).trans u_0) rfl) ?_
              obtain ⟨y15, hy15, h⟩ := okb h
              obtain ⟨H16, hCH16, eH16_14, eH16_12, fH16⟩ := C_X4_leaveRest (S := S) (d := d) (z := z) eH14_13 ((fH14 14 rfl).trans u_14) eH14_12 hy15
              refine go_step (F1 := (69, [some (.ref 0), some (.int x1), some (.int x2), some (.int x3), some (.int x4)], [])) (M1 := (H16, z)) (fun _ => ev_callV (x := (.invokevirtual 275, 3, 47, 3, 894, .null)) (as := [.ref 13, .ref 14]) (rest := []) rfl rfl eH14_12 hCH16 rfl) ?_
              refine go_step (fun _ => ev_run 3 (F' := (72, [some (.ref 0), some (.int x1), some (.int x2), some (.int x3), some (.int x4)], [.ref 0, .int x1, .ref 0])) rfl) ?_
              refine go_step (fun _ => ev_getf rfl ((fH16 0 rfl).trans ((fH14 0 rfl).trans u_0)) rfl) ?_
              obtain ⟨y17, hy17, h⟩ := okb h
              obtain ⟨H18, hCH18, eH18_10, eH18_11, fH18⟩ := C_X11_putOnShelf (S := S) (d := d) (z := z) (x1 := x1) ((fH16 0 rfl).trans ((fH14 0 rfl).trans u_0)) ((fH16 10 rfl).trans ((fH14 10 rfl).trans u_10)) ((fH16 11 rfl).trans ((fH14 11 rfl).trans u_11)) eH16_14 (nb rfl) (nb rfl) hy17
              refine go_step (F1 := (78, [some (.ref 0), some (.int x1), some (.int x2), some (.int x3), some (.int x4)], [.int y17.1])) (M1 := (H18, z)) (fun _ => ev_callV (x := (.invokevirtual 233, 3, 142, 10, 824, .null)) (as := [.int x1, .ref 14]) (rest := []) rfl rfl ((fH16 0 rfl).trans ((fH14 0 rfl).trans u_0)) hCH18 rfl) ?_
              refine go_step (fun _ => ev_run 4 (F' := (82, [some (.ref 0), some (.int x1), some (.int x2), some (.int x3), some (.int x4)], [.ref 0, .int x2, .ref 0])) rfl) ?_
              refine go_step (fun _ => ev_getf rfl ((fH18 0 rfl).trans ((fH16 0 rfl).trans ((fH14 0 rfl).trans u_0))) rfl) ?_
              obtain ⟨y19, hy19, h⟩ := okb h
              obtain ⟨H20, hCH20, eH20_10, eH20_11, fH20⟩ := C_X11_putOnShelf (S := S) (d := d) (z := z) (x1 := x2) ((fH18 0 rfl).trans ((fH16 0 rfl).trans ((fH14 0 rfl).trans u_0))) eH18_10 eH18_11 ((fH18 12 rfl).trans eH16_12) (nb rfl) (nb rfl) hy19
              refine go_step (F1 := (88, [some (.ref 0), some (.int x1), some (.int x2), some (.int x3), some (.int x4)], [.int y19.1])) (M1 := (H20, z)) (fun _ => ev_callV (x := (.invokevirtual 233, 3, 142, 10, 824, .null)) (as := [.int x2, .ref 12]) (rest := []) rfl rfl ((fH18 0 rfl).trans ((fH16 0 rfl).trans ((fH14 0 rfl).trans u_0))) hCH20 rfl) ?_
              cases h
              exact Or.inr ⟨_, ev_ret rfl rfl rfl rfl, H20, rfl, eH20_10, eH20_11, ((fH20 12 rfl).trans ((fH18 12 rfl).trans eH16_12)), ((fH20 13 rfl).trans ((fH18 13 rfl).trans ((fH16 13 rfl).trans eH14_13))), ((fH20 14 rfl).trans ((fH18 14 rfl).trans eH16_14)), (xfr_t (xfr_t (xfr_t (xfr_t xfr_refl rfl fH14) rfl fH16) rfl fH18) rfl fH20)⟩
            · have h := (if_neg b40).symm.trans h
              cases h
              exact Or.inr ⟨_, ev_throw rfl rfl rfl rfl, H14, rfl, ((fH14 10 rfl).trans u_10), ((fH14 11 rfl).trans u_11), eH14_12, eH14_13, ((fH14 14 rfl).trans u_14), (xfr_t xfr_refl rfl fH14)⟩
          · have h := (if_neg b19).symm.trans h
            cases h
            exact Or.inr ⟨_, ev_throw rfl rfl rfl rfl, H14, rfl, ((fH14 10 rfl).trans u_10), ((fH14 11 rfl).trans u_11), eH14_12, eH14_13, ((fH14 14 rfl).trans u_14), (xfr_t xfr_refl rfl fH14)⟩
  obtain ⟨_, hE, H', rfl, hrest⟩ := go_end G
  exact ⟨H', hE, hrest⟩
def q_X11_common_L14 : Nat → Int32 → Int64 → Int64 → Int64 → Int64 → Int64 → Int64 → Option (Int32 × Int64 × Int64 × Int64 × Int64 × Int64 × Int64)
  | 0, _, _, _, _, _, _, _ => none
  | n + 1, l4, c12_0, c12_1, c13_0, c13_1, c14_0, c14_1 => (if (190 : Int32) < l4 then (some (l4, c12_0, c12_1, c13_0, c13_1, c14_0, c14_1)) else (if ¬ (t_X4_isZero c13_0 c13_1) = (0 : Int32) then (some (l4, c12_0, c12_1, c13_0, c13_1, c14_0, c14_1)) else ((q_X4_leaveRest c13_0 c13_1 c12_0 c12_1).bind (fun y1 => (q_X11_common_L14 n (l4 + (1 : Int32)) ((t_X4_copy c13_0 c13_1).1) ((t_X4_copy c13_0 c13_1).2) ((t_X4_copy ((t_X4_copy y1.2.2.1 y1.2.2.2).1) ((t_X4_copy y1.2.2.1 y1.2.2.2).2)).1) ((t_X4_copy ((t_X4_copy y1.2.2.1 y1.2.2.2).1) ((t_X4_copy y1.2.2.1 y1.2.2.2).2)).2) ((t_X4_copy y1.2.2.1 y1.2.2.2).1) ((t_X4_copy y1.2.2.1 y1.2.2.2).2))))))
def q_X11_common (x1 : Int32) (x2 : Int32) (x3 : Int32) (a10 : Nat → Int64) (a11 : Nat → Int64) (c12_0 : Int64) (c12_1 : Int64) (c13_0 : Int64) (c13_1 : Int64) (c14_0 : Int64) (c14_1 : Int64) : Option ((Nat ⊕ Int32) × ((Nat → Int64) × (Nat → Int64) × Int64 × Int64 × Int64 × Int64 × Int64 × Int64)) := (xbnd (q_X11_requireShelf x1) (fun e2 y1 => (some (Sum.inl e2, (a10, a11, c12_0, c12_1, c13_0, c13_1, c14_0, c14_1)))) (fun v3 y4 => (xbnd (q_X11_takeBoth x2 x3 a10 a11 c12_0 c12_1 c13_0 c13_1) (fun e6 y5 => (some (Sum.inl e6, (a10, a11, y5.1, y5.2.1, y5.2.2.1, y5.2.2.2, c14_0, c14_1)))) (fun v7 y8 => ((q_X11_common_L14 10000 (0 : Int32) y8.1 y8.2.1 y8.2.2.1 y8.2.2.2 c14_0 c14_1).bind (fun y11 => ((q_X11_putOnShelf x1 a10 a11 y11.2.1 y11.2.2.1).bind (fun y14 => (some (Sum.inr y14.1, (y14.2.1, y14.2.2, y11.2.1, y11.2.2.1, y11.2.2.2.1, y11.2.2.2.2.1, y11.2.2.2.2.2.1, y11.2.2.2.2.2.2)))))))))))
theorem L_X11_common_L14 {S : Nat × (Nat → Int32)} {d : Nat} {z : Bool × Nat × Nat} {a10 : Nat → Int64} {a11 : Nat → Int64} {x1 : Int32} {H0 : List xE} (u_0 : H0[0]? = some (oO)) (u_10 : H0[10]? = some (.inl (1, 8, .inr (.inl a10)))) (u_11 : H0[11]? = some (.inl (1, 8, .inr (.inl a11)))) : ∀ (n : Nat) (l4 : Int32) (c12_0 : Int64) (c12_1 : Int64) (c13_0 : Int64) (c13_1 : Int64) (c14_0 : Int64) (c14_1 : Int64) (H : List xE), xfr [12, 13, 14] H0 H → H[12]? = some (.inr (3, [.long c12_0, .long c12_1])) → H[13]? = some (.inr (3, [.long c13_0, .long c13_1])) → H[14]? = some (.inr (3, [.long c14_0, .long c14_1])) → ∀ x, q_X11_common_L14 n l4 c12_0 c12_1 c13_0 c13_1 c14_0 c14_1 = some x → Go S (d + 3) 116 (14, [some (.ref 0), some (.int x1), none, none, some (.int l4)], []) (H, z) (fun F' M' => ∃ H' : List xE, F' = (86, [some (.ref 0), some (.int x1), none, none, none], []) ∧ M' = (H', z) ∧ H'[12]? = some (.inr (3, [.long x.2.1, .long x.2.2.1])) ∧ H'[13]? = some (.inr (3, [.long x.2.2.2.1, .long x.2.2.2.2.1])) ∧ H'[14]? = some (.inr (3, [.long x.2.2.2.2.2.1, .long x.2.2.2.2.2.2])) ∧ xfr [12, 13, 14] H0 H') (fun _ => False) := by
  intro n
  induction n with
  | zero =>
    intro l4 c12_0 c12_1 c13_0 c13_1 c14_0 c14_1 H fr e_12 e_13 e_14 x h
    unfold q_X11_common_L14 at h
    cases h
  | succ n ih =>
    intro l4 c12_0 c12_1 c13_0 c13_1 c14_0 c14_1 H fr e_12 e_13 e_14 x h
    unfold q_X11_common_L14 at h
    refine go_step (fun _ => ev_run 2 (F' := (19, [some (.ref 0), some (.int x1), none, none, some (.int l4)], [.int (190 : Int32), .int l4])) rfl) ?_
    refine go_icmp rfl (fun (b19 : (190 : Int32) < l4) => ?_) (fun (b19 : ¬ ((190 : Int32) < l4)) => ?_)
    · have h := (if_pos b19).symm.trans h
      refine go_step (fun _ => ev_forget (L' := [some (.ref 0), some (.int x1), none, none, none]) (show xleP _ [some (.ref 0), some (.int x1), none, none, some (.int l4)] from ⟨rfl, ⟨rfl, trivial⟩⟩) rfl) ?_
      cases h
      exact Or.inl ⟨_, _, fun r hr => hr, H, rfl, rfl, e_12, e_13, e_14, fr⟩
    · have h := (if_neg b19).symm.trans h
      refine go_step (fun _ => ev_run 1 (F' := (23, [some (.ref 0), some (.int x1), none, none, some (.int l4)], [.ref 0])) rfl) ?_
      refine go_step (fun _ => ev_getf rfl ((fr 0 rfl).trans u_0) rfl) ?_
      refine go_step (F1 := (29, [some (.ref 0), some (.int x1), none, none, some (.int l4)], [.int (t_X4_isZero c13_0 c13_1)])) (M1 := (H, z)) (fun _ => ev_callV (x := (.invokevirtual 267, 3, 42, 3, 883, .null)) (as := []) (rest := []) rfl rfl e_13 (C_X4_isZero (S := S) (d := d + 2) (z := z) e_13) rfl) ?_
      refine go_if rfl (fun (b29 : ¬ (t_X4_isZero c13_0 c13_1) = (0 : Int32)) => ?_) (fun (b29 : ¬ (¬ (t_X4_isZero c13_0 c13_1) = (0 : Int32))) => ?_)
      · have h := (if_pos b29).symm.trans h
        refine go_step (fun _ => ev_forget (L' := [some (.ref 0), some (.int x1), none, none, none]) (show xleP _ [some (.ref 0), some (.int x1), none, none, some (.int l4)] from ⟨rfl, ⟨rfl, trivial⟩⟩) rfl) ?_
        cases h
        exact Or.inl ⟨_, _, fun r hr => hr, H, rfl, rfl, e_12, e_13, e_14, fr⟩
      · have h := (if_neg b29).symm.trans h
        refine go_step (fun _ => ev_run 1 (F' := (33, [some (.ref 0), some (.int x1), none, none, some (.int l4)], [.ref 0])) rfl) ?_
        refine go_step (fun _ => ev_getf rfl ((fr 0 rfl).trans u_0) rfl) ?_
        refine go_step (fun _ => ev_run 1 (F' := (37, [some (.ref 0), some (.int x1), none, none, some (.int l4)], [.ref 0, .ref 12])) rfl) ?_
        refine go_step (fun _ => ev_getf rfl ((fr 0 rfl).trans u_0) rfl) ?_
        refine go_step (fun _ => ev_run 1 (F' := (41, [some (.ref 0), some (.int x1), none, none, some (.int l4)], [.ref 0, .ref 13, .ref 12])) rfl) ?_
        refine go_step (fun _ => ev_getf rfl ((fr 0 rfl).trans u_0) rfl) ?_
        obtain ⟨y1, hy1, h⟩ := okb h
        obtain ⟨H2, hCH2, eH2_14, eH2_12, fH2⟩ := C_X4_leaveRest (S := S) (d := d) (z := z) e_13 e_14 e_12 hy1
        refine go_step (F1 := (47, [some (.ref 0), some (.int x1), none, none, some (.int l4)], [])) (M1 := (H2, z)) (fun _ => ev_callV (x := (.invokevirtual 275, 3, 47, 3, 894, .null)) (as := [.ref 13, .ref 14]) (rest := []) rfl rfl e_12 hCH2 rfl) ?_
        refine go_step (fun _ => ev_run 1 (F' := (48, [some (.ref 0), some (.int x1), none, none, some (.int l4)], [.ref 0])) rfl) ?_
        refine go_step (fun _ => ev_getf rfl ((fH2 0 rfl).trans ((fr 0 rfl).trans u_0)) rfl) ?_
        refine go_step (fun _ => ev_run 1 (F' := (52, [some (.ref 0), some (.int x1), none, none, some (.int l4)], [.ref 0, .ref 14])) rfl) ?_
        refine go_step (fun _ => ev_getf rfl ((fH2 0 rfl).trans ((fr 0 rfl).trans u_0)) rfl) ?_
        obtain ⟨H3, hCH3, eH3_14, fH3⟩ := C_X4_copy (S := S) (d := d + 1) (z := z) eH2_12 eH2_14
        refine go_step (F1 := (58, [some (.ref 0), some (.int x1), none, none, some (.int l4)], [])) (M1 := (H3, z)) (fun _ => ev_callV (x := (.invokevirtual 278, 3, 41, 3, 999, .null)) (as := [.ref 12]) (rest := []) rfl rfl eH2_14 hCH3 rfl) ?_
        refine go_step (fun _ => ev_run 1 (F' := (59, [some (.ref 0), some (.int x1), none, none, some (.int l4)], [.ref 0])) rfl) ?_
        refine go_step (fun _ => ev_getf rfl ((fH3 0 rfl).trans ((fH2 0 rfl).trans ((fr 0 rfl).trans u_0))) rfl) ?_
        refine go_step (fun _ => ev_run 1 (F' := (63, [some (.ref 0), some (.int x1), none, none, some (.int l4)], [.ref 0, .ref 12])) rfl) ?_
        refine go_step (fun _ => ev_getf rfl ((fH3 0 rfl).trans ((fH2 0 rfl).trans ((fr 0 rfl).trans u_0))) rfl) ?_
        obtain ⟨H4, hCH4, eH4_12, fH4⟩ := C_X4_copy (S := S) (d := d + 1) (z := z) ((fH3 13 rfl).trans ((fH2 13 rfl).trans e_13)) ((fH3 12 rfl).trans eH2_12)
        refine go_step (F1 := (69, [some (.ref 0), some (.int x1), none, none, some (.int l4)], [])) (M1 := (H4, z)) (fun _ => ev_callV (x := (.invokevirtual 278, 3, 41, 3, 999, .null)) (as := [.ref 13]) (rest := []) rfl rfl ((fH3 12 rfl).trans eH2_12) hCH4 rfl) ?_
        refine go_step (fun _ => ev_run 1 (F' := (70, [some (.ref 0), some (.int x1), none, none, some (.int l4)], [.ref 0])) rfl) ?_
        refine go_step (fun _ => ev_getf rfl ((fH4 0 rfl).trans ((fH3 0 rfl).trans ((fH2 0 rfl).trans ((fr 0 rfl).trans u_0)))) rfl) ?_
        refine go_step (fun _ => ev_run 1 (F' := (74, [some (.ref 0), some (.int x1), none, none, some (.int l4)], [.ref 0, .ref 13])) rfl) ?_
        refine go_step (fun _ => ev_getf rfl ((fH4 0 rfl).trans ((fH3 0 rfl).trans ((fH2 0 rfl).trans ((fr 0 rfl).trans u_0)))) rfl) ?_
        obtain ⟨H5, hCH5, eH5_13, fH5⟩ := C_X4_copy (S := S) (d := d + 1) (z := z) ((fH4 14 rfl).trans eH3_14) ((fH4 13 rfl).trans ((fH3 13 rfl).trans ((fH2 13 rfl).trans e_13)))
        refine go_step (F1 := (80, [some (.ref 0), some (.int x1), none, none, some (.int l4)], [])) (M1 := (H5, z)) (fun _ => ev_callV (x := (.invokevirtual 278, 3, 41, 3, 999, .null)) (as := [.ref 14]) (rest := []) rfl rfl ((fH4 13 rfl).trans ((fH3 13 rfl).trans ((fH2 13 rfl).trans e_13))) hCH5 rfl) ?_
        refine go_step (fun _ => ev_run 2 (F' := (14, [some (.ref 0), some (.int x1), none, none, some (.int (l4 + (1 : Int32)))], [])) rfl) ?_
        exact ih (l4 + (1 : Int32)) ((t_X4_copy c13_0 c13_1).1) ((t_X4_copy c13_0 c13_1).2) ((t_X4_copy ((t_X4_copy y1.2.2.1 y1.2.2.2).1) ((t_X4_copy y1.2.2.1 y1.2.2.2).2)).1) ((t_X4_copy ((t_X4_copy y1.2.2.1 y1.2.2.2).1) ((t_X4_copy y1.2.2.1 y1.2.2.2).2)).2) ((t_X4_copy y1.2.2.1 y1.2.2.2).1) ((t_X4_copy y1.2.2.1 y1.2.2.2).2) H5 (xfr_t (xfr_t (xfr_t (xfr_t fr rfl fH2) rfl fH3) rfl fH4) rfl fH5) ((fH5 12 rfl).trans eH4_12) eH5_13 ((fH5 14 rfl).trans ((fH4 14 rfl).trans eH3_14)) _ h
theorem C_X11_common {S : Nat × (Nat → Int32)} {d : Nat} {H : List xE} {z : Bool × Nat × Nat} {a10 : Nat → Int64} {a11 : Nat → Int64} {c12_0 : Int64} {c12_1 : Int64} {c13_0 : Int64} {c13_1 : Int64} {c14_0 : Int64} {c14_1 : Int64} {x1 : Int32} {x2 : Int32} {x3 : Int32} (u_0 : H[0]? = some (oO)) (u_10 : H[10]? = some (.inl (1, 8, .inr (.inl a10)))) (u_11 : H[11]? = some (.inl (1, 8, .inr (.inl a11)))) (u_12 : H[12]? = some (.inr (3, [.long c12_0, .long c12_1]))) (u_13 : H[13]? = some (.inr (3, [.long c13_0, .long c13_1]))) (u_14 : H[14]? = some (.inr (3, [.long c14_0, .long c14_1]))) {x : ((Nat ⊕ Int32) × ((Nat → Int64) × (Nat → Int64) × Int64 × Int64 × Int64 × Int64 × Int64 × Int64))} (h : q_X11_common x1 x2 x3 a10 a11 c12_0 c12_1 c13_0 c13_1 c14_0 c14_1 = some x) : ∃ H' : List xE, Cm S (d + 3) 116 [.ref 0, .int x1, .int x2, .int x3] (H, z) (oI x.1, (H', oZ x.1 z)) ∧ H'[10]? = some (.inl (1, 8, .inr (.inl x.2.1))) ∧ H'[11]? = some (.inl (1, 8, .inr (.inl x.2.2.1))) ∧ H'[12]? = some (.inr (3, [.long x.2.2.2.1, .long x.2.2.2.2.1])) ∧ H'[13]? = some (.inr (3, [.long x.2.2.2.2.2.1, .long x.2.2.2.2.2.2.1])) ∧ H'[14]? = some (.inr (3, [.long x.2.2.2.2.2.2.2.1, .long x.2.2.2.2.2.2.2.2])) ∧ xfr [10, 11, 12, 13, 14] H H' := by
  have G : Go S (d + 3) 116 (0, [some (.ref 0), some (.int x1), some (.int x2), some (.int x3), none], []) (H, z) (fun _ _ => False) (fun r => ∃ H' : List xE, r = (oI x.1, (H', oZ x.1 z)) ∧ H'[10]? = some (.inl (1, 8, .inr (.inl x.2.1))) ∧ H'[11]? = some (.inl (1, 8, .inr (.inl x.2.2.1))) ∧ H'[12]? = some (.inr (3, [.long x.2.2.2.1, .long x.2.2.2.2.1])) ∧ H'[13]? = some (.inr (3, [.long x.2.2.2.2.2.1, .long x.2.2.2.2.2.2.1])) ∧ H'[14]? = some (.inr (3, [.long x.2.2.2.2.2.2.2.1, .long x.2.2.2.2.2.2.2.2])) ∧ xfr [10, 11, 12, 13, 14] H H') := by
    unfold q_X11_common at h
    refine go_step (fun _ => ev_run 2 (F' := (2, [some (.ref 0), some (.int x1), some (.int x2), some (.int x3), none], [.int x1, .ref 0])) rfl) ?_
    rcases okx h with ⟨e2, y1, hy1, h⟩ | ⟨v3, y4, hy4, h⟩
    · skip
      cases h
      exact Or.inr ⟨_, ev_callVX (x := (.invokevirtual 226, 3, 150, 10, 811, .null)) (as := [.int x1]) (rest := []) rfl rfl u_0 rfl (C_X11_requireShelf (S := S) (d := d + 1) (z := z) (x1 := x1) u_0 u_10 u_11 hy1) rfl, H, rfl, u_10, u_11, u_12, u_13, u_14, xfr_refl⟩
    · skip
      refine go_step (F1 := (5, [some (.ref 0), some (.int x1), some (.int x2), some (.int x3), none], [])) (M1 := (H, z)) (fun _ => ev_callV (x := (.invokevirtual 226, 3, 150, 10, 811, .null)) (as := [.int x1]) (rest := []) rfl rfl u_0 (C_X11_requireShelf (S := S) (d := d + 1) (z := z) (x1 := x1) u_0 u_10 u_11 hy4) rfl) ?_
      refine go_step (fun _ => ev_run 3 (F' := (8, [some (.ref 0), some (.int x1), some (.int x2), some (.int x3), none], [.int x3, .int x2, .ref 0])) rfl) ?_
      rcases okx h with ⟨e6, y5, hy5, h⟩ | ⟨v7, y8, hy8, h⟩
      · skip
        obtain ⟨H9, hCH9, eH9_12, eH9_13, fH9⟩ := C_X11_takeBoth (S := S) (d := d) (z := z) (x1 := x2) (x2 := x3) u_0 u_10 u_11 u_12 u_13 hy5
        cases h
        exact Or.inr ⟨_, ev_callVX (x := (.invokevirtual 250, 3, 144, 10, 840, .null)) (as := [.int x2, .int x3]) (rest := []) rfl rfl u_0 rfl hCH9 rfl, H9, rfl, ((fH9 10 rfl).trans u_10), ((fH9 11 rfl).trans u_11), eH9_12, eH9_13, ((fH9 14 rfl).trans u_14), (xfr_t xfr_refl rfl fH9)⟩
      · skip
        obtain ⟨H10, hCH10, eH10_12, eH10_13, fH10⟩ := C_X11_takeBoth (S := S) (d := d) (z := z) (x1 := x2) (x2 := x3) u_0 u_10 u_11 u_12 u_13 hy8
        refine go_step (F1 := (11, [some (.ref 0), some (.int x1), some (.int x2), some (.int x3), none], [])) (M1 := (H10, z)) (fun _ => ev_callV (x := (.invokevirtual 250, 3, 144, 10, 840, .null)) (as := [.int x2, .int x3]) (rest := []) rfl rfl u_0 hCH10 rfl) ?_
        refine go_step (fun _ => ev_run 2 (F' := (14, [some (.ref 0), some (.int x1), some (.int x2), some (.int x3), some (.int (0 : Int32))], [])) rfl) ?_
        refine go_step (fun _ => ev_forget (L' := [some (.ref 0), some (.int x1), none, none, some (.int (0 : Int32))]) (show xleP _ [some (.ref 0), some (.int x1), some (.int x2), some (.int x3), some (.int (0 : Int32))] from ⟨rfl, ⟨rfl, ⟨rfl, trivial⟩⟩⟩) rfl) ?_
        obtain ⟨y11, hy11, h⟩ := okb h
        obtain ⟨_, _, hr13, H12, rfl, rfl, eH12_12, eH12_13, eH12_14, fH12⟩ := go_nr (L_X11_common_L14 (S := S) (d := d) (z := z) (x1 := x1) ((fH10 0 rfl).trans u_0) ((fH10 10 rfl).trans u_10) ((fH10 11 rfl).trans u_11) 10000 (0 : Int32) y8.1 y8.2.1 y8.2.2.1 y8.2.2.2 c14_0 c14_1 H10 xfr_refl eH10_12 eH10_13 ((fH10 14 rfl).trans u_14) _ hy11)
        refine go_step hr13 ?_
        refine go_step (fun _ => ev_run 3 (F' := (89, [some (.ref 0), some (.int x1), none, none, none], [.ref 0, .int x1, .ref 0])) rfl) ?_
        refine go_step (fun _ => ev_getf rfl ((fH12 0 rfl).trans ((fH10 0 rfl).trans u_0)) rfl) ?_
        obtain ⟨y14, hy14, h⟩ := okb h
        obtain ⟨H15, hCH15, eH15_10, eH15_11, fH15⟩ := C_X11_putOnShelf (S := S) (d := d) (z := z) (x1 := x1) ((fH12 0 rfl).trans ((fH10 0 rfl).trans u_0)) ((fH12 10 rfl).trans ((fH10 10 rfl).trans u_10)) ((fH12 11 rfl).trans ((fH10 11 rfl).trans u_11)) eH12_12 (nb rfl) (nb rfl) hy14
        refine go_step (F1 := (95, [some (.ref 0), some (.int x1), none, none, none], [.int y14.1])) (M1 := (H15, z)) (fun _ => ev_callV (x := (.invokevirtual 233, 3, 142, 10, 824, .null)) (as := [.int x1, .ref 12]) (rest := []) rfl rfl ((fH12 0 rfl).trans ((fH10 0 rfl).trans u_0)) hCH15 rfl) ?_
        cases h
        exact Or.inr ⟨_, ev_ret rfl rfl rfl rfl, H15, rfl, eH15_10, eH15_11, ((fH15 12 rfl).trans eH12_12), ((fH15 13 rfl).trans eH12_13), ((fH15 14 rfl).trans eH12_14), (xfr_t (xfr_t (xfr_t xfr_refl rfl fH10) rfl fH12) rfl fH15)⟩
  obtain ⟨_, hE, H', rfl, hrest⟩ := go_end G
  exact ⟨H', hE, hrest⟩
def q_X11_smallNumberOn (x1 : Int32) (a10 : Nat → Int64) (a11 : Nat → Int64) (c12_0 : Int64) (c12_1 : Int64) : Option ((Nat ⊕ Int32) × (Int64 × Int64)) := (xbnd (q_X11_requireShelf x1) (fun e2 y1 => (some (Sum.inl e2, (c12_0, c12_1)))) (fun v3 y4 => ((q_X11_takeFromShelf x1 a10 a11 c12_0 c12_1).bind (fun y5 => ((q_X4_degree y5.1 y5.2).bind (fun y7 => (if y7 < (1 : Int32) then (some (Sum.inl 5, (y5.1, y5.2))) else ((q_X4_degree y5.1 y5.2).bind (fun y8 => (if y8 ≤ (12 : Int32) then (some (Sum.inr (t_X4_part (0 : Int32) y5.1 y5.2), (y5.1, y5.2))) else (some (Sum.inl 5, (y5.1, y5.2)))))))))))))
theorem C_X11_smallNumberOn {S : Nat × (Nat → Int32)} {d : Nat} {H : List xE} {z : Bool × Nat × Nat} {a10 : Nat → Int64} {a11 : Nat → Int64} {c12_0 : Int64} {c12_1 : Int64} {x1 : Int32} (u_0 : H[0]? = some (oO)) (u_10 : H[10]? = some (.inl (1, 8, .inr (.inl a10)))) (u_11 : H[11]? = some (.inl (1, 8, .inr (.inl a11)))) (u_12 : H[12]? = some (.inr (3, [.long c12_0, .long c12_1]))) {x : ((Nat ⊕ Int32) × (Int64 × Int64))} (h : q_X11_smallNumberOn x1 a10 a11 c12_0 c12_1 = some x) : ∃ H' : List xE, Cm S (d + 2) 145 [.ref 0, .int x1] (H, z) (oI x.1, (H', oZ x.1 z)) ∧ H'[12]? = some (.inr (3, [.long x.2.1, .long x.2.2])) ∧ xfr [12] H H' := by
  have G : Go S (d + 2) 145 (0, [some (.ref 0), some (.int x1)], []) (H, z) (fun _ _ => False) (fun r => ∃ H' : List xE, r = (oI x.1, (H', oZ x.1 z)) ∧ H'[12]? = some (.inr (3, [.long x.2.1, .long x.2.2])) ∧ xfr [12] H H') := by
    unfold q_X11_smallNumberOn at h
    refine go_step (fun _ => ev_run 2 (F' := (2, [some (.ref 0), some (.int x1)], [.int x1, .ref 0])) rfl) ?_
    rcases okx h with ⟨e2, y1, hy1, h⟩ | ⟨v3, y4, hy4, h⟩
    · skip
      cases h
      exact Or.inr ⟨_, ev_callVX (x := (.invokevirtual 226, 3, 150, 10, 811, .null)) (as := [.int x1]) (rest := []) rfl rfl u_0 rfl (C_X11_requireShelf (S := S) (d := d) (z := z) (x1 := x1) u_0 u_10 u_11 hy1) rfl, H, rfl, u_12, xfr_refl⟩
    · skip
      refine go_step (F1 := (5, [some (.ref 0), some (.int x1)], [])) (M1 := (H, z)) (fun _ => ev_callV (x := (.invokevirtual 226, 3, 150, 10, 811, .null)) (as := [.int x1]) (rest := []) rfl rfl u_0 (C_X11_requireShelf (S := S) (d := d) (z := z) (x1 := x1) u_0 u_10 u_11 hy4) rfl) ?_
      refine go_step (fun _ => ev_run 3 (F' := (8, [some (.ref 0), some (.int x1)], [.ref 0, .int x1, .ref 0])) rfl) ?_
      refine go_step (fun _ => ev_getf rfl u_0 rfl) ?_
      obtain ⟨y5, hy5, h⟩ := okb h
      obtain ⟨H6, hCH6, eH6_12, fH6⟩ := C_X11_takeFromShelf (S := S) (d := d) (z := z) (x1 := x1) u_0 u_10 u_11 u_12 hy5
      refine go_step (F1 := (14, [some (.ref 0), some (.int x1)], [])) (M1 := (H6, z)) (fun _ => ev_callV (x := (.invokevirtual 243, 3, 143, 10, 844, .null)) (as := [.int x1, .ref 12]) (rest := []) rfl rfl u_0 hCH6 rfl) ?_
      refine go_step (fun _ => ev_run 1 (F' := (15, [some (.ref 0), some (.int x1)], [.ref 0])) rfl) ?_
      refine go_step (fun _ => ev_getf rfl ((fH6 0 rfl).trans u_0) rfl) ?_
      obtain ⟨y7, hy7, h⟩ := okb h
      refine go_step (F1 := (21, [some (.ref 0), some (.int x1)], [.int y7])) (M1 := (H6, z)) (fun _ => ev_callV (x := (.invokevirtual 253, 3, 43, 3, 828, .null)) (as := []) (rest := []) rfl rfl eH6_12 (C_X4_degree (S := S) (d := d) (z := z) eH6_12 hy7) rfl) ?_
      refine go_step (fun _ => ev_run 1 (F' := (22, [some (.ref 0), some (.int x1)], [.int (1 : Int32), .int y7])) rfl) ?_
      refine go_icmp rfl (fun (b22 : y7 < (1 : Int32)) => ?_) (fun (b22 : ¬ (y7 < (1 : Int32))) => ?_)
      · have h := (if_pos b22).symm.trans h
        cases h
        exact Or.inr ⟨_, ev_throw rfl rfl rfl rfl, H6, rfl, eH6_12, (xfr_t xfr_refl rfl fH6)⟩
      · have h := (if_neg b22).symm.trans h
        refine go_step (fun _ => ev_run 1 (F' := (26, [some (.ref 0), some (.int x1)], [.ref 0])) rfl) ?_
        refine go_step (fun _ => ev_getf rfl ((fH6 0 rfl).trans u_0) rfl) ?_
        obtain ⟨y8, hy8, h⟩ := okb h
        refine go_step (F1 := (32, [some (.ref 0), some (.int x1)], [.int y8])) (M1 := (H6, z)) (fun _ => ev_callV (x := (.invokevirtual 253, 3, 43, 3, 828, .null)) (as := []) (rest := []) rfl rfl eH6_12 (C_X4_degree (S := S) (d := d) (z := z) eH6_12 hy8) rfl) ?_
        refine go_step (fun _ => ev_run 1 (F' := (34, [some (.ref 0), some (.int x1)], [.int (12 : Int32), .int y8])) rfl) ?_
        refine go_icmp rfl (fun (b34 : y8 ≤ (12 : Int32)) => ?_) (fun (b34 : ¬ (y8 ≤ (12 : Int32))) => ?_)
        · have h := (if_pos b34).symm.trans h
          refine go_step (fun _ => ev_run 1 (F' := (49, [some (.ref 0), some (.int x1)], [.ref 0])) rfl) ?_
          refine go_step (fun _ => ev_getf rfl ((fH6 0 rfl).trans u_0) rfl) ?_
          refine go_step (fun _ => ev_run 1 (F' := (53, [some (.ref 0), some (.int x1)], [.int (0 : Int32), .ref 12])) rfl) ?_
          refine go_step (F1 := (56, [some (.ref 0), some (.int x1)], [.int (t_X4_part (0 : Int32) y5.1 y5.2)])) (M1 := (H6, z)) (fun _ => ev_callV (x := (.invokevirtual 247, 3, 44, 3, 917, .null)) (as := [.int (0 : Int32)]) (rest := []) rfl rfl eH6_12 (C_X4_part (S := S) (d := d + 1) (z := z) (x1 := (0 : Int32)) eH6_12) rfl) ?_
          cases h
          exact Or.inr ⟨_, ev_ret rfl rfl rfl rfl, H6, rfl, eH6_12, (xfr_t xfr_refl rfl fH6)⟩
        · have h := (if_neg b34).symm.trans h
          cases h
          exact Or.inr ⟨_, ev_throw rfl rfl rfl rfl, H6, rfl, eH6_12, (xfr_t xfr_refl rfl fH6)⟩
  obtain ⟨_, hE, H', rfl, hrest⟩ := go_end G
  exact ⟨H', hE, hrest⟩
def q_X11_order (x1 : Int32) (a10 : Nat → Int64) (a11 : Nat → Int64) (c12_0 : Int64) (c12_1 : Int64) : Option ((Nat ⊕ Int32) × (Int64 × Int64)) := (xbnd (q_X11_smallNumberOn x1 a10 a11 c12_0 c12_1) (fun e2 y1 => (some (Sum.inl e2, (y1.1, y1.2)))) (fun v3 y4 => (if ¬ (v3 &&& (1 : Int32)) = (0 : Int32) then ((q_X4_orderOf v3).bind (fun y7 => (some (Sum.inr y7, (y4.1, y4.2))))) else (some (Sum.inl 3, (y4.1, y4.2))))))
theorem C_X11_order {S : Nat × (Nat → Int32)} {d : Nat} {H : List xE} {z : Bool × Nat × Nat} {a10 : Nat → Int64} {a11 : Nat → Int64} {c12_0 : Int64} {c12_1 : Int64} {x1 : Int32} (u_10 : H[10]? = some (.inl (1, 8, .inr (.inl a10)))) (u_11 : H[11]? = some (.inl (1, 8, .inr (.inl a11)))) (u_12 : H[12]? = some (.inr (3, [.long c12_0, .long c12_1]))) (u_0 : H[0]? = some (oO)) {x : ((Nat ⊕ Int32) × (Int64 × Int64))} (h : q_X11_order x1 a10 a11 c12_0 c12_1 = some x) : ∃ H' : List xE, Cm S (d + 3) 117 [.ref 0, .int x1] (H, z) (oI x.1, (H', oZ x.1 z)) ∧ H'[12]? = some (.inr (3, [.long x.2.1, .long x.2.2])) ∧ xfr [12] H H' := by
  have G : Go S (d + 3) 117 (0, [some (.ref 0), some (.int x1), none], []) (H, z) (fun _ _ => False) (fun r => ∃ H' : List xE, r = (oI x.1, (H', oZ x.1 z)) ∧ H'[12]? = some (.inr (3, [.long x.2.1, .long x.2.2])) ∧ xfr [12] H H') := by
    unfold q_X11_order at h
    refine go_step (fun _ => ev_run 2 (F' := (2, [some (.ref 0), some (.int x1), none], [.int x1, .ref 0])) rfl) ?_
    rcases okx h with ⟨e2, y1, hy1, h⟩ | ⟨v3, y4, hy4, h⟩
    · skip
      obtain ⟨H5, hCH5, eH5_12, fH5⟩ := C_X11_smallNumberOn (S := S) (d := d) (z := z) (x1 := x1) u_0 u_10 u_11 u_12 hy1
      cases h
      exact Or.inr ⟨_, ev_callVX (x := (.invokevirtual 282, 3, 145, 10, 933, .null)) (as := [.int x1]) (rest := []) rfl rfl u_0 rfl hCH5 rfl, H5, rfl, eH5_12, (xfr_t xfr_refl rfl fH5)⟩
    · skip
      obtain ⟨H6, hCH6, eH6_12, fH6⟩ := C_X11_smallNumberOn (S := S) (d := d) (z := z) (x1 := x1) u_0 u_10 u_11 u_12 hy4
      refine go_step (F1 := (5, [some (.ref 0), some (.int x1), none], [.int v3])) (M1 := (H6, z)) (fun _ => ev_callV (x := (.invokevirtual 282, 3, 145, 10, 933, .null)) (as := [.int x1]) (rest := []) rfl rfl u_0 hCH6 rfl) ?_
      refine go_step (fun _ => ev_run 4 (F' := (9, [some (.ref 0), some (.int x1), some (.int v3)], [.int (v3 &&& (1 : Int32))])) rfl) ?_
      refine go_if rfl (fun (b9 : ¬ (v3 &&& (1 : Int32)) = (0 : Int32)) => ?_) (fun (b9 : ¬ (¬ (v3 &&& (1 : Int32)) = (0 : Int32))) => ?_)
      · have h := (if_pos b9).symm.trans h
        refine go_step (fun _ => ev_run 1 (F' := (24, [some (.ref 0), some (.int x1), some (.int v3)], [.int v3])) rfl) ?_
        obtain ⟨y7, hy7, h⟩ := okb h
        refine go_step (F1 := (27, [some (.ref 0), some (.int x1), some (.int v3)], [.int y7])) (M1 := (H6, z)) (fun _ => ev_call (x := (.invokestatic 292, 3, 50, 3, 954, .null)) (as := [.int v3]) (rest := []) rfl rfl (C_X4_orderOf (S := S) (d := d + 1) (z := z) (x0 := v3) hy7) rfl) ?_
        cases h
        exact Or.inr ⟨_, ev_ret rfl rfl rfl rfl, H6, rfl, eH6_12, (xfr_t xfr_refl rfl fH6)⟩
      · have h := (if_neg b9).symm.trans h
        cases h
        exact Or.inr ⟨_, ev_throw rfl rfl rfl rfl, H6, rfl, eH6_12, (xfr_t xfr_refl rfl fH6)⟩
  obtain ⟨_, hE, H', rfl, hrest⟩ := go_end G
  exact ⟨H', hE, hrest⟩
def q_X11_isSeen (x1 : Int32) (a10 : Nat → Int64) (a11 : Nat → Int64) (c12_0 : Int64) (c12_1 : Int64) (c8_0 : Int32) (c8_1 : Int32) (c13_0 : Int64) (c13_1 : Int64) (c14_0 : Int64) (c14_1 : Int64) : Option ((Nat ⊕ Int32) × (Int64 × Int64 × Int64 × Int64 × Int64 × Int64)) := (xbnd (q_X11_requireShelf x1) (fun e2 y1 => (some (Sum.inl e2, (c12_0, c12_1, c13_0, c13_1, c14_0, c14_1)))) (fun v3 y4 => ((q_X11_takeFromShelf x1 a10 a11 c12_0 c12_1).bind (fun y5 => (if (t_X4_isZero y5.1 y5.2) = (0 : Int32) then ((q_X4_leaveRest ((t_X4_become (t_X1_number c8_0 c8_1) (0 : Int64)).1) ((t_X4_become (t_X1_number c8_0 c8_1) (0 : Int64)).2) y5.1 y5.2).bind (fun y8 => (if ¬ (t_X4_isZero y8.2.2.1 y8.2.2.2) = (0 : Int32) then (some (Sum.inr (0 : Int32), (y8.2.2.1, y8.2.2.2, (t_X4_become (t_X1_number c8_0 c8_1) (0 : Int64)).1, (t_X4_become (t_X1_number c8_0 c8_1) (0 : Int64)).2, y8.1, y8.2.1))) else (some (Sum.inr (1 : Int32), (y8.2.2.1, y8.2.2.2, (t_X4_become (t_X1_number c8_0 c8_1) (0 : Int64)).1, (t_X4_become (t_X1_number c8_0 c8_1) (0 : Int64)).2, y8.1, y8.2.1)))))) else (some (Sum.inl 4, (y5.1, y5.2, c13_0, c13_1, c14_0, c14_1))))))))
theorem C_X11_isSeen {S : Nat × (Nat → Int32)} {d : Nat} {H : List xE} {z : Bool × Nat × Nat} {a10 : Nat → Int64} {a11 : Nat → Int64} {c12_0 : Int64} {c12_1 : Int64} {c8_0 : Int32} {c8_1 : Int32} {c8_2 : Int32} {c8_3 : Int32} {c8_4 : Int32} {c8_5 : Int32} {c13_0 : Int64} {c13_1 : Int64} {c14_0 : Int64} {c14_1 : Int64} {x1 : Int32} (u_0 : H[0]? = some (oO)) (u_10 : H[10]? = some (.inl (1, 8, .inr (.inl a10)))) (u_11 : H[11]? = some (.inl (1, 8, .inr (.inl a11)))) (u_12 : H[12]? = some (.inr (3, [.long c12_0, .long c12_1]))) (u_8 : H[8]? = some (.inr (1, [.int c8_0, .int c8_1, .int c8_2, .int c8_3, .int c8_4, .int c8_5]))) (u_13 : H[13]? = some (.inr (3, [.long c13_0, .long c13_1]))) (u_14 : H[14]? = some (.inr (3, [.long c14_0, .long c14_1]))) {x : ((Nat ⊕ Int32) × (Int64 × Int64 × Int64 × Int64 × Int64 × Int64))} (h : q_X11_isSeen x1 a10 a11 c12_0 c12_1 c8_0 c8_1 c13_0 c13_1 c14_0 c14_1 = some x) : ∃ H' : List xE, Cm S (d + 3) 118 [.ref 0, .int x1] (H, z) (oI x.1, (H', oZ x.1 z)) ∧ H'[12]? = some (.inr (3, [.long x.2.1, .long x.2.2.1])) ∧ H'[13]? = some (.inr (3, [.long x.2.2.2.1, .long x.2.2.2.2.1])) ∧ H'[14]? = some (.inr (3, [.long x.2.2.2.2.2.1, .long x.2.2.2.2.2.2])) ∧ xfr [12, 13, 14] H H' := by
  have G : Go S (d + 3) 118 (0, [some (.ref 0), some (.int x1)], []) (H, z) (fun _ _ => False) (fun r => ∃ H' : List xE, r = (oI x.1, (H', oZ x.1 z)) ∧ H'[12]? = some (.inr (3, [.long x.2.1, .long x.2.2.1])) ∧ H'[13]? = some (.inr (3, [.long x.2.2.2.1, .long x.2.2.2.2.1])) ∧ H'[14]? = some (.inr (3, [.long x.2.2.2.2.2.1, .long x.2.2.2.2.2.2])) ∧ xfr [12, 13, 14] H H') := by
    unfold q_X11_isSeen at h
    refine go_step (fun _ => ev_run 2 (F' := (2, [some (.ref 0), some (.int x1)], [.int x1, .ref 0])) rfl) ?_
    rcases okx h with ⟨e2, y1, hy1, h⟩ | ⟨v3, y4, hy4, h⟩
    · skip
      cases h
      exact Or.inr ⟨_, ev_callVX (x := (.invokevirtual 226, 3, 150, 10, 811, .null)) (as := [.int x1]) (rest := []) rfl rfl u_0 rfl (C_X11_requireShelf (S := S) (d := d + 1) (z := z) (x1 := x1) u_0 u_10 u_11 hy1) rfl, H, rfl, u_12, u_13, u_14, xfr_refl⟩
    · skip
      refine go_step (F1 := (5, [some (.ref 0), some (.int x1)], [])) (M1 := (H, z)) (fun _ => ev_callV (x := (.invokevirtual 226, 3, 150, 10, 811, .null)) (as := [.int x1]) (rest := []) rfl rfl u_0 (C_X11_requireShelf (S := S) (d := d + 1) (z := z) (x1 := x1) u_0 u_10 u_11 hy4) rfl) ?_
      refine go_step (fun _ => ev_run 3 (F' := (8, [some (.ref 0), some (.int x1)], [.ref 0, .int x1, .ref 0])) rfl) ?_
      refine go_step (fun _ => ev_getf rfl u_0 rfl) ?_
      obtain ⟨y5, hy5, h⟩ := okb h
      obtain ⟨H6, hCH6, eH6_12, fH6⟩ := C_X11_takeFromShelf (S := S) (d := d + 1) (z := z) (x1 := x1) u_0 u_10 u_11 u_12 hy5
      refine go_step (F1 := (14, [some (.ref 0), some (.int x1)], [])) (M1 := (H6, z)) (fun _ => ev_callV (x := (.invokevirtual 243, 3, 143, 10, 844, .null)) (as := [.int x1, .ref 12]) (rest := []) rfl rfl u_0 hCH6 rfl) ?_
      refine go_step (fun _ => ev_run 1 (F' := (15, [some (.ref 0), some (.int x1)], [.ref 0])) rfl) ?_
      refine go_step (fun _ => ev_getf rfl ((fH6 0 rfl).trans u_0) rfl) ?_
      refine go_step (F1 := (21, [some (.ref 0), some (.int x1)], [.int (t_X4_isZero y5.1 y5.2)])) (M1 := (H6, z)) (fun _ => ev_callV (x := (.invokevirtual 267, 3, 42, 3, 883, .null)) (as := []) (rest := []) rfl rfl eH6_12 (C_X4_isZero (S := S) (d := d + 2) (z := z) eH6_12) rfl) ?_
      refine go_if rfl (fun (b21 : (t_X4_isZero y5.1 y5.2) = (0 : Int32)) => ?_) (fun (b21 : ¬ ((t_X4_isZero y5.1 y5.2) = (0 : Int32))) => ?_)
      · have h := (if_pos b21).symm.trans h
        refine go_step (fun _ => ev_run 1 (F' := (36, [some (.ref 0), some (.int x1)], [.ref 0])) rfl) ?_
        refine go_step (fun _ => ev_getf rfl ((fH6 0 rfl).trans u_0) rfl) ?_
        refine go_step (fun _ => ev_run 1 (F' := (40, [some (.ref 0), some (.int x1)], [.ref 0, .ref 13])) rfl) ?_
        refine go_step (fun _ => ev_getf rfl ((fH6 0 rfl).trans u_0) rfl) ?_
        refine go_step (F1 := (46, [some (.ref 0), some (.int x1)], [.long (t_X1_number c8_0 c8_1), .ref 13])) (M1 := (H6, z)) (fun _ => ev_callV (x := (.invokevirtual 237, 3, 14, 1, 890, .null)) (as := []) (rest := [.ref 13]) rfl rfl ((fH6 8 rfl).trans u_8) (C_X1_number (S := S) (d := d + 2) (z := z) ((fH6 8 rfl).trans u_8)) rfl) ?_
        refine go_step (fun _ => ev_run 1 (F' := (47, [some (.ref 0), some (.int x1)], [.long (0 : Int64), .long (t_X1_number c8_0 c8_1), .ref 13])) rfl) ?_
        obtain ⟨H7, hCH7, eH7_13, fH7⟩ := C_X4_become (S := S) (d := d + 2) (z := z) (x1 := (t_X1_number c8_0 c8_1)) (x3 := (0 : Int64)) ((fH6 13 rfl).trans u_13)
        refine go_step (F1 := (50, [some (.ref 0), some (.int x1)], [])) (M1 := (H7, z)) (fun _ => ev_callV (x := (.invokevirtual 229, 3, 40, 3, 820, .null)) (as := [.long (t_X1_number c8_0 c8_1), .long (0 : Int64)]) (rest := []) rfl rfl ((fH6 13 rfl).trans u_13) hCH7 rfl) ?_
        refine go_step (fun _ => ev_run 1 (F' := (51, [some (.ref 0), some (.int x1)], [.ref 0])) rfl) ?_
        refine go_step (fun _ => ev_getf rfl ((fH7 0 rfl).trans ((fH6 0 rfl).trans u_0)) rfl) ?_
        refine go_step (fun _ => ev_run 1 (F' := (55, [some (.ref 0), some (.int x1)], [.ref 0, .ref 12])) rfl) ?_
        refine go_step (fun _ => ev_getf rfl ((fH7 0 rfl).trans ((fH6 0 rfl).trans u_0)) rfl) ?_
        refine go_step (fun _ => ev_run 1 (F' := (59, [some (.ref 0), some (.int x1)], [.ref 0, .ref 13, .ref 12])) rfl) ?_
        refine go_step (fun _ => ev_getf rfl ((fH7 0 rfl).trans ((fH6 0 rfl).trans u_0)) rfl) ?_
        obtain ⟨y8, hy8, h⟩ := okb h
        obtain ⟨H9, hCH9, eH9_14, eH9_12, fH9⟩ := C_X4_leaveRest (S := S) (d := d) (z := z) eH7_13 ((fH7 14 rfl).trans ((fH6 14 rfl).trans u_14)) ((fH7 12 rfl).trans eH6_12) hy8
        refine go_step (F1 := (65, [some (.ref 0), some (.int x1)], [])) (M1 := (H9, z)) (fun _ => ev_callV (x := (.invokevirtual 275, 3, 47, 3, 894, .null)) (as := [.ref 13, .ref 14]) (rest := []) rfl rfl ((fH7 12 rfl).trans eH6_12) hCH9 rfl) ?_
        refine go_step (fun _ => ev_run 1 (F' := (66, [some (.ref 0), some (.int x1)], [.ref 0])) rfl) ?_
        refine go_step (fun _ => ev_getf rfl ((fH9 0 rfl).trans ((fH7 0 rfl).trans ((fH6 0 rfl).trans u_0))) rfl) ?_
        refine go_step (F1 := (72, [some (.ref 0), some (.int x1)], [.int (t_X4_isZero y8.2.2.1 y8.2.2.2)])) (M1 := (H9, z)) (fun _ => ev_callV (x := (.invokevirtual 267, 3, 42, 3, 883, .null)) (as := []) (rest := []) rfl rfl eH9_12 (C_X4_isZero (S := S) (d := d + 2) (z := z) eH9_12) rfl) ?_
        refine go_if rfl (fun (b72 : ¬ (t_X4_isZero y8.2.2.1 y8.2.2.2) = (0 : Int32)) => ?_) (fun (b72 : ¬ (¬ (t_X4_isZero y8.2.2.1 y8.2.2.2) = (0 : Int32))) => ?_)
        · have h := (if_pos b72).symm.trans h
          refine go_step (fun _ => ev_run 1 (F' := (80, [some (.ref 0), some (.int x1)], [.int (0 : Int32)])) rfl) ?_
          cases h
          exact Or.inr ⟨_, ev_ret rfl rfl rfl rfl, H9, rfl, eH9_12, ((fH9 13 rfl).trans eH7_13), eH9_14, (xfr_t (xfr_t (xfr_t xfr_refl rfl fH6) rfl fH7) rfl fH9)⟩
        · have h := (if_neg b72).symm.trans h
          refine go_step (fun _ => ev_run 2 (F' := (80, [some (.ref 0), some (.int x1)], [.int (1 : Int32)])) rfl) ?_
          cases h
          exact Or.inr ⟨_, ev_ret rfl rfl rfl rfl, H9, rfl, eH9_12, ((fH9 13 rfl).trans eH7_13), eH9_14, (xfr_t (xfr_t (xfr_t xfr_refl rfl fH6) rfl fH7) rfl fH9)⟩
      · have h := (if_neg b21).symm.trans h
        cases h
        exact Or.inr ⟨_, ev_throw rfl rfl rfl rfl, H6, rfl, eH6_12, ((fH6 13 rfl).trans u_13), ((fH6 14 rfl).trans u_14), (xfr_t xfr_refl rfl fH6)⟩
  obtain ⟨_, hE, H', rfl, hrest⟩ := go_end G
  exact ⟨H', hE, hrest⟩
def q_X11_slipOfKind (x1 : Int32) (a16 : Nat → Int32) (c8_0 : Int32) (c8_1 : Int32) : Option ((Nat ⊕ Int64) × (Nat → Int32)) := (if x1 < (2 : Int32) then (some (Sum.inl 0, a16)) else (if x1 ≤ (4 : Int32) then ((q_X7_leastUnseen x1 a16 c8_0 c8_1).bind (fun y1 => (some (Sum.inr y1.1, y1.2)))) else (some (Sum.inl 0, a16))))
theorem C_X11_slipOfKind {S : Nat × (Nat → Int32)} {d : Nat} {H : List xE} {z : Bool × Nat × Nat} {a16 : Nat → Int32} {c8_0 : Int32} {c8_1 : Int32} {c8_2 : Int32} {c8_3 : Int32} {c8_4 : Int32} {c8_5 : Int32} {x1 : Int32} (u_0 : H[0]? = some (oO)) (u_16 : H[16]? = some (.inl (0, 48, .inl a16))) (u_8 : H[8]? = some (.inr (1, [.int c8_0, .int c8_1, .int c8_2, .int c8_3, .int c8_4, .int c8_5]))) (u_15 : H[15]? = some (.inr (6, [.ref 16]))) {x : ((Nat ⊕ Int64) × (Nat → Int32))} (h : q_X11_slipOfKind x1 a16 c8_0 c8_1 = some x) : ∃ H' : List xE, Cm S (d + 4) 140 [.ref 0, .int x1] (H, z) (oL x.1, (H', oZ x.1 z)) ∧ H'[16]? = some (.inl (0, 48, .inl x.2)) ∧ xfr [16] H H' := by
  have G : Go S (d + 4) 140 (0, [some (.ref 0), some (.int x1)], []) (H, z) (fun _ _ => False) (fun r => ∃ H' : List xE, r = (oL x.1, (H', oZ x.1 z)) ∧ H'[16]? = some (.inl (0, 48, .inl x.2)) ∧ xfr [16] H H') := by
    unfold q_X11_slipOfKind at h
    refine go_step (fun _ => ev_run 2 (F' := (2, [some (.ref 0), some (.int x1)], [.int (2 : Int32), .int x1])) rfl) ?_
    refine go_icmp rfl (fun (b2 : x1 < (2 : Int32)) => ?_) (fun (b2 : ¬ (x1 < (2 : Int32))) => ?_)
    · have h := (if_pos b2).symm.trans h
      cases h
      exact Or.inr ⟨_, ev_throw rfl rfl rfl rfl, H, rfl, u_16, xfr_refl⟩
    · have h := (if_neg b2).symm.trans h
      refine go_step (fun _ => ev_run 2 (F' := (7, [some (.ref 0), some (.int x1)], [.int (4 : Int32), .int x1])) rfl) ?_
      refine go_icmp rfl (fun (b7 : x1 ≤ (4 : Int32)) => ?_) (fun (b7 : ¬ (x1 ≤ (4 : Int32))) => ?_)
      · have h := (if_pos b7).symm.trans h
        refine go_step (fun _ => ev_run 1 (F' := (22, [some (.ref 0), some (.int x1)], [.ref 0])) rfl) ?_
        refine go_step (fun _ => ev_getf rfl u_0 rfl) ?_
        refine go_step (fun _ => ev_run 1 (F' := (26, [some (.ref 0), some (.int x1)], [.ref 0, .ref 15])) rfl) ?_
        refine go_step (fun _ => ev_getf rfl u_0 rfl) ?_
        refine go_step (fun _ => ev_run 1 (F' := (30, [some (.ref 0), some (.int x1)], [.int x1, .ref 8, .ref 15])) rfl) ?_
        obtain ⟨y1, hy1, h⟩ := okb h
        obtain ⟨H2, hCH2, eH2_16, fH2⟩ := C_X7_leastUnseen (S := S) (d := d) (z := z) (x2 := x1) u_16 u_8 u_15 (nb rfl) hy1
        refine go_step (F1 := (33, [some (.ref 0), some (.int x1)], [.long y1.1])) (M1 := (H2, z)) (fun _ => ev_callV (x := (.invokevirtual 445, 3, 73, 6, 969, .null)) (as := [.ref 8, .int x1]) (rest := []) rfl rfl u_15 hCH2 rfl) ?_
        cases h
        exact Or.inr ⟨_, ev_ret rfl rfl rfl rfl, H2, rfl, eH2_16, (xfr_t xfr_refl rfl fH2)⟩
      · have h := (if_neg b7).symm.trans h
        cases h
        exact Or.inr ⟨_, ev_throw rfl rfl rfl rfl, H, rfl, u_16, xfr_refl⟩
  obtain ⟨_, hE, H', rfl, hrest⟩ := go_end G
  exact ⟨H', hE, hrest⟩
def q_X11_shortest (x1 : Int32) (a16 : Nat → Int32) (c8_0 : Int32) (c8_1 : Int32) (c14_0 : Int64) (c14_1 : Int64) : Option ((Nat ⊕ Int32) × ((Nat → Int32) × Int64 × Int64)) := (xbnd (q_X11_slipOfKind x1 a16 c8_0 c8_1) (fun e2 y1 => (some (Sum.inl e2, (y1, c14_0, c14_1)))) (fun v3 y4 => (if ¬ (lg_cmp v3 (0 : Int64)) = (0 : Int32) then ((q_X4_degree ((t_X4_become v3 (0 : Int64)).1) ((t_X4_become v3 (0 : Int64)).2)).bind (fun y8 => (some (Sum.inr (y8 + (1 : Int32)), (y4, (t_X4_become v3 (0 : Int64)).1, (t_X4_become v3 (0 : Int64)).2))))) else (some (Sum.inr (-1 : Int32), (y4, c14_0, c14_1))))))
theorem C_X11_shortest {S : Nat × (Nat → Int32)} {d : Nat} {H : List xE} {z : Bool × Nat × Nat} {a16 : Nat → Int32} {c8_0 : Int32} {c8_1 : Int32} {c8_2 : Int32} {c8_3 : Int32} {c8_4 : Int32} {c8_5 : Int32} {c14_0 : Int64} {c14_1 : Int64} {x1 : Int32} (u_16 : H[16]? = some (.inl (0, 48, .inl a16))) (u_8 : H[8]? = some (.inr (1, [.int c8_0, .int c8_1, .int c8_2, .int c8_3, .int c8_4, .int c8_5]))) (u_0 : H[0]? = some (oO)) (u_15 : H[15]? = some (.inr (6, [.ref 16]))) (u_14 : H[14]? = some (.inr (3, [.long c14_0, .long c14_1]))) {x : ((Nat ⊕ Int32) × ((Nat → Int32) × Int64 × Int64))} (h : q_X11_shortest x1 a16 c8_0 c8_1 c14_0 c14_1 = some x) : ∃ H' : List xE, Cm S (d + 5) 119 [.ref 0, .int x1] (H, z) (oI x.1, (H', oZ x.1 z)) ∧ H'[16]? = some (.inl (0, 48, .inl x.2.1)) ∧ H'[14]? = some (.inr (3, [.long x.2.2.1, .long x.2.2.2])) ∧ xfr [16, 14] H H' := by
  have G : Go S (d + 5) 119 (0, [some (.ref 0), some (.int x1), none, none], []) (H, z) (fun _ _ => False) (fun r => ∃ H' : List xE, r = (oI x.1, (H', oZ x.1 z)) ∧ H'[16]? = some (.inl (0, 48, .inl x.2.1)) ∧ H'[14]? = some (.inr (3, [.long x.2.2.1, .long x.2.2.2])) ∧ xfr [16, 14] H H') := by
    unfold q_X11_shortest at h
    refine go_step (fun _ => ev_run 2 (F' := (2, [some (.ref 0), some (.int x1), none, none], [.int x1, .ref 0])) rfl) ?_
    rcases okx h with ⟨e2, y1, hy1, h⟩ | ⟨v3, y4, hy4, h⟩
    · skip
      obtain ⟨H5, hCH5, eH5_16, fH5⟩ := C_X11_slipOfKind (S := S) (d := d) (z := z) (x1 := x1) u_0 u_16 u_8 u_15 hy1
      cases h
      exact Or.inr ⟨_, ev_callVX (x := (.invokevirtual 297, 3, 140, 10, 964, .null)) (as := [.int x1]) (rest := []) rfl rfl u_0 rfl hCH5 rfl, H5, rfl, eH5_16, ((fH5 14 rfl).trans u_14), (xfr_t xfr_refl rfl fH5)⟩
    · skip
      obtain ⟨H6, hCH6, eH6_16, fH6⟩ := C_X11_slipOfKind (S := S) (d := d) (z := z) (x1 := x1) u_0 u_16 u_8 u_15 hy4
      refine go_step (F1 := (5, [some (.ref 0), some (.int x1), none, none], [.long v3])) (M1 := (H6, z)) (fun _ => ev_callV (x := (.invokevirtual 297, 3, 140, 10, 964, .null)) (as := [.int x1]) (rest := []) rfl rfl u_0 hCH6 rfl) ?_
      refine go_step (fun _ => ev_run 4 (F' := (9, [some (.ref 0), some (.int x1), some (.long v3), none], [.int (lg_cmp v3 (0 : Int64))])) rfl) ?_
      refine go_if rfl (fun (b9 : ¬ (lg_cmp v3 (0 : Int64)) = (0 : Int32)) => ?_) (fun (b9 : ¬ (¬ (lg_cmp v3 (0 : Int64)) = (0 : Int32))) => ?_)
      · have h := (if_pos b9).symm.trans h
        refine go_step (fun _ => ev_run 1 (F' := (15, [some (.ref 0), some (.int x1), some (.long v3), none], [.ref 0])) rfl) ?_
        refine go_step (fun _ => ev_getf rfl ((fH6 0 rfl).trans u_0) rfl) ?_
        refine go_step (fun _ => ev_run 2 (F' := (20, [some (.ref 0), some (.int x1), some (.long v3), none], [.long (0 : Int64), .long v3, .ref 14])) rfl) ?_
        obtain ⟨H7, hCH7, eH7_14, fH7⟩ := C_X4_become (S := S) (d := d + 4) (z := z) (x1 := v3) (x3 := (0 : Int64)) ((fH6 14 rfl).trans u_14)
        refine go_step (F1 := (23, [some (.ref 0), some (.int x1), some (.long v3), none], [])) (M1 := (H7, z)) (fun _ => ev_callV (x := (.invokevirtual 229, 3, 40, 3, 820, .null)) (as := [.long v3, .long (0 : Int64)]) (rest := []) rfl rfl ((fH6 14 rfl).trans u_14) hCH7 rfl) ?_
        refine go_step (fun _ => ev_run 1 (F' := (24, [some (.ref 0), some (.int x1), some (.long v3), none], [.ref 0])) rfl) ?_
        refine go_step (fun _ => ev_getf rfl ((fH7 0 rfl).trans ((fH6 0 rfl).trans u_0)) rfl) ?_
        obtain ⟨y8, hy8, h⟩ := okb h
        refine go_step (F1 := (30, [some (.ref 0), some (.int x1), some (.long v3), none], [.int y8])) (M1 := (H7, z)) (fun _ => ev_callV (x := (.invokevirtual 253, 3, 43, 3, 828, .null)) (as := []) (rest := []) rfl rfl eH7_14 (C_X4_degree (S := S) (d := d + 3) (z := z) eH7_14 hy8) rfl) ?_
        refine go_step (fun _ => ev_run 2 (F' := (32, [some (.ref 0), some (.int x1), some (.long v3), none], [.int (y8 + (1 : Int32))])) rfl) ?_
        cases h
        exact Or.inr ⟨_, ev_ret rfl rfl rfl rfl, H7, rfl, ((fH7 16 rfl).trans eH6_16), eH7_14, (xfr_t (xfr_t xfr_refl rfl fH6) rfl fH7)⟩
      · have h := (if_neg b9).symm.trans h
        refine go_step (fun _ => ev_run 1 (F' := (13, [some (.ref 0), some (.int x1), some (.long v3), none], [.int (-1 : Int32)])) rfl) ?_
        cases h
        exact Or.inr ⟨_, ev_ret rfl rfl rfl rfl, H6, rfl, eH6_16, ((fH6 14 rfl).trans u_14), (xfr_t xfr_refl rfl fH6)⟩
  obtain ⟨_, hE, H', rfl, hrest⟩ := go_end G
  exact ⟨H', hE, hrest⟩
def q_X11_digit (x1 : Int32) (c17_1 : Int32) (a18 : Nat → Int32) : Option ((Nat ⊕ Int32) × (Int32 × (Nat → Int32))) := (if x1 < (0 : Int32) then (some (Sum.inl 0, (c17_1, a18))) else (if x1 ≤ (9 : Int32) then (if (t_X5_size c17_1) < (18 : Int32) then ((q_X5_append x1 c17_1 18 a18).bind (fun y1 => (some (Sum.inr (t_X5_size y1.1), (y1.1, y1.2))))) else (some (Sum.inl 1, (c17_1, a18)))) else (some (Sum.inl 0, (c17_1, a18)))))
theorem C_X11_digit {S : Nat × (Nat → Int32)} {d : Nat} {H : List xE} {z : Bool × Nat × Nat} {c17_1 : Int32} {a18 : Nat → Int32} {x1 : Int32} (u_0 : H[0]? = some (oO)) (u_17 : H[17]? = some (.inr (4, [.ref 18, .int c17_1]))) (u_18 : H[18]? = some (.inl (0, 18, .inl a18))) {x : ((Nat ⊕ Int32) × (Int32 × (Nat → Int32)))} (h : q_X11_digit x1 c17_1 a18 = some x) : ∃ H' : List xE, Cm S (d + 3) 120 [.ref 0, .int x1] (H, z) (oI x.1, (H', oZ x.1 z)) ∧ H'[17]? = some (.inr (4, [.ref 18, .int x.2.1])) ∧ H'[18]? = some (.inl (0, 18, .inl x.2.2)) ∧ xfr [17, 18] H H' := by
  have G : Go S (d + 3) 120 (0, [some (.ref 0), some (.int x1)], []) (H, z) (fun _ _ => False) (fun r => ∃ H' : List xE, r = (oI x.1, (H', oZ x.1 z)) ∧ H'[17]? = some (.inr (4, [.ref 18, .int x.2.1])) ∧ H'[18]? = some (.inl (0, 18, .inl x.2.2)) ∧ xfr [17, 18] H H') := by
    unfold q_X11_digit at h
    refine go_step (fun _ => ev_run 1 (F' := (1, [some (.ref 0), some (.int x1)], [.int x1])) rfl) ?_
    refine go_if rfl (fun (b1 : x1 < (0 : Int32)) => ?_) (fun (b1 : ¬ (x1 < (0 : Int32))) => ?_)
    · have h := (if_pos b1).symm.trans h
      cases h
      exact Or.inr ⟨_, ev_throw rfl rfl rfl rfl, H, rfl, u_17, u_18, xfr_refl⟩
    · have h := (if_neg b1).symm.trans h
      refine go_step (fun _ => ev_run 2 (F' := (7, [some (.ref 0), some (.int x1)], [.int (9 : Int32), .int x1])) rfl) ?_
      refine go_icmp rfl (fun (b7 : x1 ≤ (9 : Int32)) => ?_) (fun (b7 : ¬ (x1 ≤ (9 : Int32))) => ?_)
      · have h := (if_pos b7).symm.trans h
        refine go_step (fun _ => ev_run 1 (F' := (22, [some (.ref 0), some (.int x1)], [.ref 0])) rfl) ?_
        refine go_step (fun _ => ev_getf rfl u_0 rfl) ?_
        refine go_step (F1 := (28, [some (.ref 0), some (.int x1)], [.int (t_X5_size c17_1)])) (M1 := (H, z)) (fun _ => ev_callV (x := (.invokevirtual 109, 3, 53, 4, 396, .null)) (as := []) (rest := []) rfl rfl u_17 (C_X5_size (S := S) (d := d + 2) (z := z) u_17) rfl) ?_
        refine go_step (fun _ => ev_run 1 (F' := (30, [some (.ref 0), some (.int x1)], [.int (18 : Int32), .int (t_X5_size c17_1)])) rfl) ?_
        refine go_icmp rfl (fun (b30 : (t_X5_size c17_1) < (18 : Int32)) => ?_) (fun (b30 : ¬ ((t_X5_size c17_1) < (18 : Int32))) => ?_)
        · have h := (if_pos b30).symm.trans h
          refine go_step (fun _ => ev_run 1 (F' := (45, [some (.ref 0), some (.int x1)], [.ref 0])) rfl) ?_
          refine go_step (fun _ => ev_getf rfl u_0 rfl) ?_
          refine go_step (fun _ => ev_run 1 (F' := (49, [some (.ref 0), some (.int x1)], [.int x1, .ref 17])) rfl) ?_
          obtain ⟨y1, hy1, h⟩ := okb h
          obtain ⟨H2, hCH2, eH2_17, eH2_18, fH2⟩ := C_X5_append (S := S) (d := d) (z := z) (x1 := x1) u_17 u_18 (nb rfl) (by decide) hy1
          refine go_step (F1 := (52, [some (.ref 0), some (.int x1)], [])) (M1 := (H2, z)) (fun _ => ev_callV (x := (.invokevirtual 126, 3, 57, 4, 436, .null)) (as := [.int x1]) (rest := []) rfl rfl u_17 hCH2 rfl) ?_
          refine go_step (fun _ => ev_run 1 (F' := (53, [some (.ref 0), some (.int x1)], [.ref 0])) rfl) ?_
          refine go_step (fun _ => ev_getf rfl ((fH2 0 rfl).trans u_0) rfl) ?_
          refine go_step (F1 := (59, [some (.ref 0), some (.int x1)], [.int (t_X5_size y1.1)])) (M1 := (H2, z)) (fun _ => ev_callV (x := (.invokevirtual 109, 3, 53, 4, 396, .null)) (as := []) (rest := []) rfl rfl eH2_17 (C_X5_size (S := S) (d := d + 2) (z := z) eH2_17) rfl) ?_
          cases h
          exact Or.inr ⟨_, ev_ret rfl rfl rfl rfl, H2, rfl, eH2_17, eH2_18, (xfr_t xfr_refl rfl fH2)⟩
        · have h := (if_neg b30).symm.trans h
          cases h
          exact Or.inr ⟨_, ev_throw rfl rfl rfl rfl, H, rfl, u_17, u_18, xfr_refl⟩
      · have h := (if_neg b7).symm.trans h
        cases h
        exact Or.inr ⟨_, ev_throw rfl rfl rfl rfl, H, rfl, u_17, u_18, xfr_refl⟩
  obtain ⟨_, hE, H', rfl, hrest⟩ := go_end G
  exact ⟨H', hE, hrest⟩
def t_X11_clear (c17_1 : Int32) : (Int32 × Int32) := ((t_X5_size c17_1), (t_X5_empty))
theorem C_X11_clear {S : Nat × (Nat → Int32)} {d : Nat} {H : List xE} {z : Bool × Nat × Nat} {c17_1 : Int32} (u_0 : H[0]? = some (oO)) (u_17 : H[17]? = some (.inr (4, [.ref 18, .int c17_1]))) : ∃ H' : List xE, Cm S (d + 1) 121 [.ref 0] (H, z) (.inr (some (.int (t_X11_clear c17_1).1)), (H', z)) ∧ H'[17]? = some (.inr (4, [.ref 18, .int ((t_X11_clear c17_1).2)])) ∧ xfr [17] H H' := by
  have G : ∀ x, t_X11_clear c17_1 = x → Go S (d + 1) 121 (0, [some (.ref 0), none], []) (H, z) (fun _ _ => False) (fun r => ∃ H' : List xE, r = (.inr (some (.int x.1)), (H', z)) ∧ H'[17]? = some (.inr (4, [.ref 18, .int x.2])) ∧ xfr [17] H H') := by
    intro x h
    unfold t_X11_clear at h
    refine go_step (fun _ => ev_run 1 (F' := (1, [some (.ref 0), none], [.ref 0])) rfl) ?_
    refine go_step (fun _ => ev_getf rfl u_0 rfl) ?_
    refine go_step (F1 := (7, [some (.ref 0), none], [.int (t_X5_size c17_1)])) (M1 := (H, z)) (fun _ => ev_callV (x := (.invokevirtual 109, 3, 53, 4, 396, .null)) (as := []) (rest := []) rfl rfl u_17 (C_X5_size (S := S) (d := d) (z := z) u_17) rfl) ?_
    refine go_step (fun _ => ev_run 2 (F' := (9, [some (.ref 0), some (.int (t_X5_size c17_1))], [.ref 0])) rfl) ?_
    refine go_step (fun _ => ev_getf rfl u_0 rfl) ?_
    obtain ⟨H1, hCH1, eH1_17, fH1⟩ := C_X5_empty (S := S) (d := d) (z := z) u_17
    refine go_step (F1 := (15, [some (.ref 0), some (.int (t_X5_size c17_1))], [])) (M1 := (H1, z)) (fun _ => ev_callV (x := (.invokevirtual 154, 3, 59, 4, 1128, .null)) (as := []) (rest := []) rfl rfl u_17 hCH1 rfl) ?_
    refine go_step (fun _ => ev_run 1 (F' := (16, [some (.ref 0), some (.int (t_X5_size c17_1))], [.int (t_X5_size c17_1)])) rfl) ?_
    cases h
    exact Or.inr ⟨_, ev_ret rfl rfl rfl rfl, H1, rfl, eH1_17, (xfr_t xfr_refl rfl fH1)⟩
  obtain ⟨_, hE, H', rfl, hrest⟩ := go_end (G _ rfl)
  exact ⟨H', hE, hrest⟩
def q_X11_requireScheme_L9 (x0 : Int32) (x2 : Int32) : Nat → Int32 → Option (Int32 ⊕ ((Nat ⊕ Unit) × Unit))
  | 0, _ => none
  | n + 1, l3 => (if x2 ≤ l3 then (some (Sum.inl l3)) else (if xin l3 4 = true then (if ¬ ((fun k => ([108, 101, 110, 116] : List Int32).getD k 0) l3.toNatClampNeg) = x0 then (q_X11_requireScheme_L9 x0 x2 n (l3 + (1 : Int32))) else (some (Sum.inr (Sum.inr (), ())))) else none))
def q_X11_requireScheme (x0 : Int32) : Option ((Nat ⊕ Unit) × Unit) := (xlp (q_X11_requireScheme_L9 x0 (nI 4) 10000 (0 : Int32)) (fun y1 => (some (Sum.inl 0, ()))) (fun y1 => (some (y1.1, ()))))
theorem L_X11_requireScheme_L9 {S : Nat × (Nat → Int32)} {d : Nat} {z : Bool × Nat × Nat} {x0 : Int32} {x2 : Int32} {H : List xE} (u_1000000 : H[1000000]? = none) : ∀ (n : Nat) (l3 : Int32) x, q_X11_requireScheme_L9 x0 x2 n l3 = some x → Go S d 155 (9, [some (.int x0), some (.ref 1000000), some (.int x2), some (.int l3), none], []) (H, z) (fun F' M' => ∃ (m : Int32), x = Sum.inl m ∧ F' = (32, [none, none, none, none, none], []) ∧ M' = (H, z)) (fun r => ∃ (c : ((Nat ⊕ Unit) × Unit)), x = Sum.inr c ∧ r = (oU c.1, (H, oZ c.1 z))) := by
  intro n
  induction n with
  | zero =>
    intro l3 x h
    unfold q_X11_requireScheme_L9 at h
    cases h
  | succ n ih =>
    intro l3 x h
    unfold q_X11_requireScheme_L9 at h
    refine go_step (fun _ => ev_run 2 (F' := (11, [some (.int x0), some (.ref 1000000), some (.int x2), some (.int l3), none], [.int x2, .int l3])) rfl) ?_
    refine go_icmp rfl (fun (b11 : x2 ≤ l3) => ?_) (fun (b11 : ¬ (x2 ≤ l3)) => ?_)
    · have h := (if_pos b11).symm.trans h
      refine go_step (fun _ => ev_forget (L' := [none, none, none, none, none]) (show xleP _ [some (.int x0), some (.ref 1000000), some (.int x2), some (.int l3), none] from trivial) rfl) ?_
      cases h
      exact Or.inl ⟨_, _, fun r hr => hr, _, rfl, rfl, rfl⟩
    · have h := (if_neg b11).symm.trans h
      refine go_step (fun _ => ev_run 2 (F' := (16, [some (.int x0), some (.ref 1000000), some (.int x2), some (.int l3), none], [.int l3, .ref 1000000])) rfl) ?_
      obtain ⟨g16, h⟩ := okg h
      refine go_step (fun _ => ev_rcald (f := (fun k => ([108, 101, 110, 116] : List Int32).getD k 0)) rfl u_1000000 rfl g16) ?_
      refine go_step (fun _ => ev_run 3 (F' := (22, [some (.int x0), some (.ref 1000000), some (.int x2), some (.int l3), some (.int ((fun k => ([108, 101, 110, 116] : List Int32).getD k 0) l3.toNatClampNeg))], [.int x0, .int ((fun k => ([108, 101, 110, 116] : List Int32).getD k 0) l3.toNatClampNeg)])) rfl) ?_
      refine go_icmp rfl (fun (b22 : ¬ ((fun k => ([108, 101, 110, 116] : List Int32).getD k 0) l3.toNatClampNeg) = x0) => ?_) (fun (b22 : ¬ (¬ ((fun k => ([108, 101, 110, 116] : List Int32).getD k 0) l3.toNatClampNeg) = x0)) => ?_)
      · have h := (if_pos b22).symm.trans h
        refine go_step (fun _ => ev_run 2 (F' := (9, [some (.int x0), some (.ref 1000000), some (.int x2), some (.int (l3 + (1 : Int32))), some (.int ((fun k => ([108, 101, 110, 116] : List Int32).getD k 0) l3.toNatClampNeg))], [])) rfl) ?_
        refine go_step (fun _ => ev_forget (L' := [some (.int x0), some (.ref 1000000), some (.int x2), some (.int (l3 + (1 : Int32))), none]) (show xleP _ [some (.int x0), some (.ref 1000000), some (.int x2), some (.int (l3 + (1 : Int32))), some (.int ((fun k => ([108, 101, 110, 116] : List Int32).getD k 0) l3.toNatClampNeg))] from ⟨rfl, ⟨rfl, ⟨rfl, ⟨rfl, trivial⟩⟩⟩⟩) rfl) ?_
        exact ih (l3 + (1 : Int32)) _ h
      · have h := (if_neg b22).symm.trans h
        cases h
        exact Or.inr ⟨_, ev_ret rfl rfl rfl rfl, _, rfl, rfl⟩
theorem C_X11_requireScheme {S : Nat × (Nat → Int32)} {d : Nat} {H : List xE} {z : Bool × Nat × Nat} {x0 : Int32} (u_1000000 : H[1000000]? = none) {x : ((Nat ⊕ Unit) × Unit)} (h : q_X11_requireScheme x0 = some x) : Cm S d 155 [.int x0] (H, z) (oU x.1, (H, oZ x.1 z)) := by
  have G : Go S d 155 (0, [some (.int x0), none, none, none, none], []) (H, z) (fun _ _ => False) (fun r => r = (oU x.1, (H, oZ x.1 z))) := by
    unfold q_X11_requireScheme at h
    refine go_step (fun _ => ev_run 3 (F' := (5, [some (.int x0), some (.ref 1000000), none, none, none], [.ref 1000000])) rfl) ?_
    refine go_step (fun _ => ev_rlen (t := 3) (m := 4) (f := (fun k => ([108, 101, 110, 116] : List Int32).getD k 0)) rfl u_1000000 rfl) ?_
    refine go_step (fun _ => ev_run 3 (F' := (9, [some (.int x0), some (.ref 1000000), some (.int (nI 4)), some (.int (0 : Int32)), none], [])) rfl) ?_
    rcases okl h with ⟨y1, hy1, h⟩ | ⟨y1, hy1, h⟩
    · rcases L_X11_requireScheme_L9 (S := S) (d := d) (z := z) (x0 := x0) (x2 := (nI 4)) u_1000000 10000 (0 : Int32) _ hy1 with ⟨_, _, hr2, _, hx3, rfl, rfl⟩ | ⟨_, _, _, hx3, _⟩
      · cases hx3
        refine go_step hr2 ?_
        cases h
        exact Or.inr ⟨_, ev_throw rfl rfl rfl rfl, rfl⟩
      · cases hx3
    · rcases L_X11_requireScheme_L9 (S := S) (d := d) (z := z) (x0 := x0) (x2 := (nI 4)) u_1000000 10000 (0 : Int32) _ hy1 with ⟨_, _, _, _, hx3, _⟩ | ⟨_, hE5, _, hx3, rfl⟩
      · cases hx3
      · cases hx3
        cases h
        exact Or.inr ⟨_, hE5, rfl⟩
  obtain ⟨_, hE, rfl⟩ := go_end G
  exact hE
def q_X11_requireDigits (c17_1 : Int32) : Option ((Nat ⊕ Unit) × Unit) := (if ¬ (t_X5_size c17_1) = (0 : Int32) then (some (Sum.inr (), ())) else (some (Sum.inl 3, ())))
theorem C_X11_requireDigits {S : Nat × (Nat → Int32)} {d : Nat} {H : List xE} {z : Bool × Nat × Nat} {c17_1 : Int32} (u_0 : H[0]? = some (oO)) (u_17 : H[17]? = some (.inr (4, [.ref 18, .int c17_1]))) {x : ((Nat ⊕ Unit) × Unit)} (h : q_X11_requireDigits c17_1 = some x) : Cm S (d + 1) 151 [.ref 0] (H, z) (oU x.1, (H, oZ x.1 z)) := by
  have G : Go S (d + 1) 151 (0, [some (.ref 0)], []) (H, z) (fun _ _ => False) (fun r => r = (oU x.1, (H, oZ x.1 z))) := by
    unfold q_X11_requireDigits at h
    refine go_step (fun _ => ev_run 1 (F' := (1, [some (.ref 0)], [.ref 0])) rfl) ?_
    refine go_step (fun _ => ev_getf rfl u_0 rfl) ?_
    refine go_step (F1 := (7, [some (.ref 0)], [.int (t_X5_size c17_1)])) (M1 := (H, z)) (fun _ => ev_callV (x := (.invokevirtual 109, 3, 53, 4, 396, .null)) (as := []) (rest := []) rfl rfl u_17 (C_X5_size (S := S) (d := d) (z := z) u_17) rfl) ?_
    refine go_if rfl (fun (b7 : ¬ (t_X5_size c17_1) = (0 : Int32)) => ?_) (fun (b7 : ¬ (¬ (t_X5_size c17_1) = (0 : Int32))) => ?_)
    · have h := (if_pos b7).symm.trans h
      cases h
      exact Or.inr ⟨_, ev_ret rfl rfl rfl rfl, rfl⟩
    · have h := (if_neg b7).symm.trans h
      cases h
      exact Or.inr ⟨_, ev_throw rfl rfl rfl rfl, rfl⟩
  obtain ⟨_, hE, rfl⟩ := go_end G
  exact hE
def q_X11_check (x1 : Int32) (c17_1 : Int32) (a18 : Nat → Int32) (a22 : Nat → Int32) : Option ((Nat ⊕ Int32) × Unit) := (xbnd (q_X11_requireScheme x1) (fun e2 y1 => (some (Sum.inl e2, ()))) (fun v3 y4 => (xbnd (q_X11_requireDigits c17_1) (fun e6 y5 => (some (Sum.inl e6, ()))) (fun v7 y8 => ((q_X6_checkOf x1 c17_1 18 a18 a22).bind (fun y9 => (some (Sum.inr y9, ()))))))))
theorem C_X11_check {S : Nat × (Nat → Int32)} {d : Nat} {H : List xE} {z : Bool × Nat × Nat} {c17_1 : Int32} {a18 : Nat → Int32} {a22 : Nat → Int32} {x1 : Int32} (u_1000000 : H[1000000]? = none) (u_17 : H[17]? = some (.inr (4, [.ref 18, .int c17_1]))) (u_0 : H[0]? = some (oO)) (u_18 : H[18]? = some (.inl (0, 18, .inl a18))) (u_22 : H[22]? = some (.inl (0, 190, .inl a22))) (u_19 : H[19]? = some (.inr (5, [.ref 20, .ref 22]))) {x : ((Nat ⊕ Int32) × Unit)} (h : q_X11_check x1 c17_1 a18 a22 = some x) : Cm S (d + 3) 122 [.ref 0, .int x1] (H, z) (oI x.1, (H, oZ x.1 z)) := by
  have G : Go S (d + 3) 122 (0, [some (.ref 0), some (.int x1)], []) (H, z) (fun _ _ => False) (fun r => r = (oI x.1, (H, oZ x.1 z))) := by
    unfold q_X11_check at h
    refine go_step (fun _ => ev_run 1 (F' := (1, [some (.ref 0), some (.int x1)], [.int x1])) rfl) ?_
    rcases okx h with ⟨e2, y1, hy1, h⟩ | ⟨v3, y4, hy4, h⟩
    · skip
      cases h
      exact Or.inr ⟨_, ev_callX (x := (.invokestatic 314, 3, 155, 10, 1057, .null)) (as := [.int x1]) (rest := []) rfl rfl rfl (C_X11_requireScheme (S := S) (d := d + 2) (z := z) (x0 := x1) u_1000000 hy1) rfl, rfl⟩
    · skip
      refine go_step (F1 := (4, [some (.ref 0), some (.int x1)], [])) (M1 := (H, z)) (fun _ => ev_call (x := (.invokestatic 314, 3, 155, 10, 1057, .null)) (as := [.int x1]) (rest := []) rfl rfl (C_X11_requireScheme (S := S) (d := d + 2) (z := z) (x0 := x1) u_1000000 hy4) rfl) ?_
      refine go_step (fun _ => ev_run 1 (F' := (5, [some (.ref 0), some (.int x1)], [.ref 0])) rfl) ?_
      rcases okx h with ⟨e6, y5, hy5, h⟩ | ⟨v7, y8, hy8, h⟩
      · skip
        cases h
        exact Or.inr ⟨_, ev_callVX (x := (.invokevirtual 318, 3, 151, 10, 1062, .null)) (as := []) (rest := []) rfl rfl u_0 rfl (C_X11_requireDigits (S := S) (d := d + 1) (z := z) u_0 u_17 hy5) rfl, rfl⟩
      · skip
        refine go_step (F1 := (8, [some (.ref 0), some (.int x1)], [])) (M1 := (H, z)) (fun _ => ev_callV (x := (.invokevirtual 318, 3, 151, 10, 1062, .null)) (as := []) (rest := []) rfl rfl u_0 (C_X11_requireDigits (S := S) (d := d + 1) (z := z) u_0 u_17 hy8) rfl) ?_
        refine go_step (fun _ => ev_run 1 (F' := (9, [some (.ref 0), some (.int x1)], [.ref 0])) rfl) ?_
        refine go_step (fun _ => ev_getf rfl u_0 rfl) ?_
        refine go_step (fun _ => ev_run 2 (F' := (14, [some (.ref 0), some (.int x1)], [.ref 0, .int x1, .ref 19])) rfl) ?_
        refine go_step (fun _ => ev_getf rfl u_0 rfl) ?_
        obtain ⟨y9, hy9, h⟩ := okb h
        refine go_step (F1 := (20, [some (.ref 0), some (.int x1)], [.int y9])) (M1 := (H, z)) (fun _ => ev_callV (x := (.invokevirtual 321, 3, 63, 5, 1071, .null)) (as := [.int x1, .ref 17]) (rest := []) rfl rfl u_19 (C_X6_checkOf (S := S) (d := d) (z := z) (x1 := x1) u_17 u_18 u_22 u_19 (by decide) hy9) rfl) ?_
        cases h
        exact Or.inr ⟨_, ev_ret rfl rfl rfl rfl, rfl⟩
  obtain ⟨_, hE, rfl⟩ := go_end G
  exact hE
def q_X11_unseen (x1 : Int32) (x2 : Int32) (c17_1 : Int32) (a18 : Nat → Int32) (a22 : Nat → Int32) (c20_1 : Int32) (a21 : Nat → Int32) : Option ((Nat ⊕ Int32) × (Int32 × (Nat → Int32))) := (xbnd (q_X11_requireScheme x1) (fun e2 y1 => (some (Sum.inl e2, (c20_1, a21)))) (fun v3 y4 => (if x2 = (115 : Int32) then (xbnd (q_X11_requireDigits c17_1) (fun e6 y5 => (some (Sum.inl e6, (c20_1, a21)))) (fun v7 y8 => ((q_X6_countUnseen x1 x2 c17_1 a18 a22 c20_1 a21).bind (fun y9 => (some (Sum.inr y9.1, (y9.2.1, y9.2.2))))))) else (if x2 = (110 : Int32) then (xbnd (q_X11_requireDigits c17_1) (fun e12 y11 => (some (Sum.inl e12, (c20_1, a21)))) (fun v13 y14 => ((q_X6_countUnseen x1 x2 c17_1 a18 a22 c20_1 a21).bind (fun y15 => (some (Sum.inr y15.1, (y15.2.1, y15.2.2))))))) else (if x2 = (106 : Int32) then (xbnd (q_X11_requireDigits c17_1) (fun e18 y17 => (some (Sum.inl e18, (c20_1, a21)))) (fun v19 y20 => ((q_X6_countUnseen x1 x2 c17_1 a18 a22 c20_1 a21).bind (fun y21 => (some (Sum.inr y21.1, (y21.2.1, y21.2.2))))))) else (if x2 = (119 : Int32) then (xbnd (q_X11_requireDigits c17_1) (fun e24 y23 => (some (Sum.inl e24, (c20_1, a21)))) (fun v25 y26 => ((q_X6_countUnseen x1 x2 c17_1 a18 a22 c20_1 a21).bind (fun y27 => (some (Sum.inr y27.1, (y27.2.1, y27.2.2))))))) else (some (Sum.inl 0, (c20_1, a21)))))))))
theorem C_X11_unseen {S : Nat × (Nat → Int32)} {d : Nat} {H : List xE} {z : Bool × Nat × Nat} {c17_1 : Int32} {a18 : Nat → Int32} {a22 : Nat → Int32} {c20_1 : Int32} {a21 : Nat → Int32} {x1 : Int32} {x2 : Int32} (u_1000000 : H[1000000]? = none) (u_17 : H[17]? = some (.inr (4, [.ref 18, .int c17_1]))) (u_0 : H[0]? = some (oO)) (u_18 : H[18]? = some (.inl (0, 18, .inl a18))) (u_22 : H[22]? = some (.inl (0, 190, .inl a22))) (u_20 : H[20]? = some (.inr (4, [.ref 21, .int c20_1]))) (u_21 : H[21]? = some (.inl (0, 18, .inl a21))) (u_19 : H[19]? = some (.inr (5, [.ref 20, .ref 22]))) {x : ((Nat ⊕ Int32) × (Int32 × (Nat → Int32)))} (h : q_X11_unseen x1 x2 c17_1 a18 a22 c20_1 a21 = some x) : ∃ H' : List xE, Cm S (d + 5) 123 [.ref 0, .int x1, .int x2] (H, z) (oI x.1, (H', oZ x.1 z)) ∧ H'[20]? = some (.inr (4, [.ref 21, .int x.2.1])) ∧ H'[21]? = some (.inl (0, 18, .inl x.2.2)) ∧ xfr [20, 21] H H' := by
  have G : Go S (d + 5) 123 (0, [some (.ref 0), some (.int x1), some (.int x2)], []) (H, z) (fun _ _ => False) (fun r => ∃ H' : List xE, r = (oI x.1, (H', oZ x.1 z)) ∧ H'[20]? = some (.inr (4, [.ref 21, .int x.2.1])) ∧ H'[21]? = some (.inl (0, 18, .inl x.2.2)) ∧ xfr [20, 21] H H') := by
    unfold q_X11_unseen at h
    refine go_step (fun _ => ev_run 1 (F' := (1, [some (.ref 0), some (.int x1), some (.int x2)], [.int x1])) rfl) ?_
    rcases okx h with ⟨e2, y1, hy1, h⟩ | ⟨v3, y4, hy4, h⟩
    · skip
      cases h
      exact Or.inr ⟨_, ev_callX (x := (.invokestatic 314, 3, 155, 10, 1057, .null)) (as := [.int x1]) (rest := []) rfl rfl rfl (C_X11_requireScheme (S := S) (d := d + 4) (z := z) (x0 := x1) u_1000000 hy1) rfl, H, rfl, u_20, u_21, xfr_refl⟩
    · skip
      refine go_step (F1 := (4, [some (.ref 0), some (.int x1), some (.int x2)], [])) (M1 := (H, z)) (fun _ => ev_call (x := (.invokestatic 314, 3, 155, 10, 1057, .null)) (as := [.int x1]) (rest := []) rfl rfl (C_X11_requireScheme (S := S) (d := d + 4) (z := z) (x0 := x1) u_1000000 hy4) rfl) ?_
      refine go_step (fun _ => ev_run 2 (F' := (7, [some (.ref 0), some (.int x1), some (.int x2)], [.int (115 : Int32), .int x2])) rfl) ?_
      refine go_icmp rfl (fun (b7 : x2 = (115 : Int32)) => ?_) (fun (b7 : ¬ (x2 = (115 : Int32))) => ?_)
      · have h := (if_pos b7).symm.trans h
        refine go_step (fun _ => ev_run 1 (F' := (40, [some (.ref 0), some (.int x1), some (.int x2)], [.ref 0])) rfl) ?_
        rcases okx h with ⟨e6, y5, hy5, h⟩ | ⟨v7, y8, hy8, h⟩
        · skip
          cases h
          exact Or.inr ⟨_, ev_callVX (x := (.invokevirtual 318, 3, 151, 10, 1062, .null)) (as := []) (rest := []) rfl rfl u_0 rfl (C_X11_requireDigits (S := S) (d := d + 3) (z := z) u_0 u_17 hy5) rfl, H, rfl, u_20, u_21, xfr_refl⟩
        · skip
          refine go_step (F1 := (43, [some (.ref 0), some (.int x1), some (.int x2)], [])) (M1 := (H, z)) (fun _ => ev_callV (x := (.invokevirtual 318, 3, 151, 10, 1062, .null)) (as := []) (rest := []) rfl rfl u_0 (C_X11_requireDigits (S := S) (d := d + 3) (z := z) u_0 u_17 hy8) rfl) ?_
          refine go_step (fun _ => ev_run 1 (F' := (44, [some (.ref 0), some (.int x1), some (.int x2)], [.ref 0])) rfl) ?_
          refine go_step (fun _ => ev_getf rfl u_0 rfl) ?_
          refine go_step (fun _ => ev_run 3 (F' := (50, [some (.ref 0), some (.int x1), some (.int x2)], [.ref 0, .int x2, .int x1, .ref 19])) rfl) ?_
          refine go_step (fun _ => ev_getf rfl u_0 rfl) ?_
          obtain ⟨y9, hy9, h⟩ := okb h
          obtain ⟨H10, hCH10, eH10_20, eH10_21, fH10⟩ := C_X6_countUnseen (S := S) (d := d) (z := z) (x1 := x1) (x2 := x2) u_17 u_18 u_22 u_20 u_21 u_19 hy9
          refine go_step (F1 := (56, [some (.ref 0), some (.int x1), some (.int x2)], [.int y9.1])) (M1 := (H10, z)) (fun _ => ev_callV (x := (.invokevirtual 327, 3, 64, 5, 579, .null)) (as := [.int x1, .int x2, .ref 17]) (rest := []) rfl rfl u_19 hCH10 rfl) ?_
          cases h
          exact Or.inr ⟨_, ev_ret rfl rfl rfl rfl, H10, rfl, eH10_20, eH10_21, (xfr_t xfr_refl rfl fH10)⟩
      · have h := (if_neg b7).symm.trans h
        refine go_step (fun _ => ev_run 2 (F' := (13, [some (.ref 0), some (.int x1), some (.int x2)], [.int (110 : Int32), .int x2])) rfl) ?_
        refine go_icmp rfl (fun (b13 : x2 = (110 : Int32)) => ?_) (fun (b13 : ¬ (x2 = (110 : Int32))) => ?_)
        · have h := (if_pos b13).symm.trans h
          refine go_step (fun _ => ev_run 1 (F' := (40, [some (.ref 0), some (.int x1), some (.int x2)], [.ref 0])) rfl) ?_
          rcases okx h with ⟨e12, y11, hy11, h⟩ | ⟨v13, y14, hy14, h⟩
          · skip
            cases h
            exact Or.inr ⟨_, ev_callVX (x := (.invokevirtual 318, 3, 151, 10, 1062, .null)) (as := []) (rest := []) rfl rfl u_0 rfl (C_X11_requireDigits (S := S) (d := d + 3) (z := z) u_0 u_17 hy11) rfl, H, rfl, u_20, u_21, xfr_refl⟩
          · skip
            refine go_step (F1 := (43, [some (.ref 0), some (.int x1), some (.int x2)], [])) (M1 := (H, z)) (fun _ => ev_callV (x := (.invokevirtual 318, 3, 151, 10, 1062, .null)) (as := []) (rest := []) rfl rfl u_0 (C_X11_requireDigits (S := S) (d := d + 3) (z := z) u_0 u_17 hy14) rfl) ?_
            refine go_step (fun _ => ev_run 1 (F' := (44, [some (.ref 0), some (.int x1), some (.int x2)], [.ref 0])) rfl) ?_
            refine go_step (fun _ => ev_getf rfl u_0 rfl) ?_
            refine go_step (fun _ => ev_run 3 (F' := (50, [some (.ref 0), some (.int x1), some (.int x2)], [.ref 0, .int x2, .int x1, .ref 19])) rfl) ?_
            refine go_step (fun _ => ev_getf rfl u_0 rfl) ?_
            obtain ⟨y15, hy15, h⟩ := okb h
            obtain ⟨H16, hCH16, eH16_20, eH16_21, fH16⟩ := C_X6_countUnseen (S := S) (d := d) (z := z) (x1 := x1) (x2 := x2) u_17 u_18 u_22 u_20 u_21 u_19 hy15
            refine go_step (F1 := (56, [some (.ref 0), some (.int x1), some (.int x2)], [.int y15.1])) (M1 := (H16, z)) (fun _ => ev_callV (x := (.invokevirtual 327, 3, 64, 5, 579, .null)) (as := [.int x1, .int x2, .ref 17]) (rest := []) rfl rfl u_19 hCH16 rfl) ?_
            cases h
            exact Or.inr ⟨_, ev_ret rfl rfl rfl rfl, H16, rfl, eH16_20, eH16_21, (xfr_t xfr_refl rfl fH16)⟩
        · have h := (if_neg b13).symm.trans h
          refine go_step (fun _ => ev_run 2 (F' := (19, [some (.ref 0), some (.int x1), some (.int x2)], [.int (106 : Int32), .int x2])) rfl) ?_
          refine go_icmp rfl (fun (b19 : x2 = (106 : Int32)) => ?_) (fun (b19 : ¬ (x2 = (106 : Int32))) => ?_)
          · have h := (if_pos b19).symm.trans h
            refine go_step (fun _ => ev_run 1 (F' := (40, [some (.ref 0), some (.int x1), some (.int x2)], [.ref 0])) rfl) ?_
            rcases okx h with ⟨e18, y17, hy17, h⟩ | ⟨v19, y20, hy20, h⟩
            · skip
              cases h
              exact Or.inr ⟨_, ev_callVX (x := (.invokevirtual 318, 3, 151, 10, 1062, .null)) (as := []) (rest := []) rfl rfl u_0 rfl (C_X11_requireDigits (S := S) (d := d + 3) (z := z) u_0 u_17 hy17) rfl, H, rfl, u_20, u_21, xfr_refl⟩
            · skip
              refine go_step (F1 := (43, [some (.ref 0), some (.int x1), some (.int x2)], [])) (M1 := (H, z)) (fun _ => ev_callV (x := (.invokevirtual 318, 3, 151, 10, 1062, .null)) (as := []) (rest := []) rfl rfl u_0 (C_X11_requireDigits (S := S) (d := d + 3) (z := z) u_0 u_17 hy20) rfl) ?_
              refine go_step (fun _ => ev_run 1 (F' := (44, [some (.ref 0), some (.int x1), some (.int x2)], [.ref 0])) rfl) ?_
              refine go_step (fun _ => ev_getf rfl u_0 rfl) ?_
              refine go_step (fun _ => ev_run 3 (F' := (50, [some (.ref 0), some (.int x1), some (.int x2)], [.ref 0, .int x2, .int x1, .ref 19])) rfl) ?_
              refine go_step (fun _ => ev_getf rfl u_0 rfl) ?_
              obtain ⟨y21, hy21, h⟩ := okb h
              obtain ⟨H22, hCH22, eH22_20, eH22_21, fH22⟩ := C_X6_countUnseen (S := S) (d := d) (z := z) (x1 := x1) (x2 := x2) u_17 u_18 u_22 u_20 u_21 u_19 hy21
              refine go_step (F1 := (56, [some (.ref 0), some (.int x1), some (.int x2)], [.int y21.1])) (M1 := (H22, z)) (fun _ => ev_callV (x := (.invokevirtual 327, 3, 64, 5, 579, .null)) (as := [.int x1, .int x2, .ref 17]) (rest := []) rfl rfl u_19 hCH22 rfl) ?_
              cases h
              exact Or.inr ⟨_, ev_ret rfl rfl rfl rfl, H22, rfl, eH22_20, eH22_21, (xfr_t xfr_refl rfl fH22)⟩
          · have h := (if_neg b19).symm.trans h
            refine go_step (fun _ => ev_run 2 (F' := (25, [some (.ref 0), some (.int x1), some (.int x2)], [.int (119 : Int32), .int x2])) rfl) ?_
            refine go_icmp rfl (fun (b25 : x2 = (119 : Int32)) => ?_) (fun (b25 : ¬ (x2 = (119 : Int32))) => ?_)
            · have h := (if_pos b25).symm.trans h
              refine go_step (fun _ => ev_run 1 (F' := (40, [some (.ref 0), some (.int x1), some (.int x2)], [.ref 0])) rfl) ?_
              rcases okx h with ⟨e24, y23, hy23, h⟩ | ⟨v25, y26, hy26, h⟩
              · skip
                cases h
                exact Or.inr ⟨_, ev_callVX (x := (.invokevirtual 318, 3, 151, 10, 1062, .null)) (as := []) (rest := []) rfl rfl u_0 rfl (C_X11_requireDigits (S := S) (d := d + 3) (z := z) u_0 u_17 hy23) rfl, H, rfl, u_20, u_21, xfr_refl⟩
              · skip
                refine go_step (F1 := (43, [some (.ref 0), some (.int x1), some (.int x2)], [])) (M1 := (H, z)) (fun _ => ev_callV (x := (.invokevirtual 318, 3, 151, 10, 1062, .null)) (as := []) (rest := []) rfl rfl u_0 (C_X11_requireDigits (S := S) (d := d + 3) (z := z) u_0 u_17 hy26) rfl) ?_
                refine go_step (fun _ => ev_run 1 (F' := (44, [some (.ref 0), some (.int x1), some (.int x2)], [.ref 0])) rfl) ?_
                refine go_step (fun _ => ev_getf rfl u_0 rfl) ?_
                refine go_step (fun _ => ev_run 3 (F' := (50, [some (.ref 0), some (.int x1), some (.int x2)], [.ref 0, .int x2, .int x1, .ref 19])) rfl) ?_
                refine go_step (fun _ => ev_getf rfl u_0 rfl) ?_
                obtain ⟨y27, hy27, h⟩ := okb h
                obtain ⟨H28, hCH28, eH28_20, eH28_21, fH28⟩ := C_X6_countUnseen (S := S) (d := d) (z := z) (x1 := x1) (x2 := x2) u_17 u_18 u_22 u_20 u_21 u_19 hy27
                refine go_step (F1 := (56, [some (.ref 0), some (.int x1), some (.int x2)], [.int y27.1])) (M1 := (H28, z)) (fun _ => ev_callV (x := (.invokevirtual 327, 3, 64, 5, 579, .null)) (as := [.int x1, .int x2, .ref 17]) (rest := []) rfl rfl u_19 hCH28 rfl) ?_
                cases h
                exact Or.inr ⟨_, ev_ret rfl rfl rfl rfl, H28, rfl, eH28_20, eH28_21, (xfr_t xfr_refl rfl fH28)⟩
            · have h := (if_neg b25).symm.trans h
              cases h
              exact Or.inr ⟨_, ev_throw rfl rfl rfl rfl, H, rfl, u_20, u_21, xfr_refl⟩
  obtain ⟨_, hE, H', rfl, hrest⟩ := go_end G
  exact ⟨H', hE, hrest⟩
def q_X11_ware (c17_1 : Int32) (c23_4 : Int32) (c24_0 : Int32) (c31_1 : Int32) (a26 : Nat → Int32) (a25 : Nat → Int32) (a32 : Nat → Int32) (a18 : Nat → Int32) : Option ((Nat ⊕ Int32) × (Int32 × Int32 × (Nat → Int32) × (Nat → Int32) × (Nat → Int32))) := (xbnd (q_X11_requireDigits c17_1) (fun e2 y1 => (some (Sum.inl e2, (c23_4, c31_1, a26, a25, a32)))) (fun v3 y4 => (if (t_X5_size c17_1) ≤ (9 : Int32) then ((q_X10_numberOf c23_4 c24_0 c31_1 a26 a25 a32 c17_1 a18).bind (fun y5 => (if y5.1 < (0 : Int32) then (if (t_X10_isFull c23_4) = (0 : Int32) then ((q_X10_added c23_4 c24_0 c17_1 a26 a25 a18).bind (fun y7 => (some (Sum.inr y7.1, (y7.2.1, y5.2.1, y7.2.2.1, y7.2.2.2, y5.2.2))))) else (some (Sum.inl 1, (c23_4, y5.2.1, a26, a25, y5.2.2)))) else (some (Sum.inr y5.1, (c23_4, y5.2.1, a26, a25, y5.2.2)))))) else (some (Sum.inl 5, (c23_4, c31_1, a26, a25, a32))))))
theorem C_X11_ware {S : Nat × (Nat → Int32)} {d : Nat} {H : List xE} {z : Bool × Nat × Nat} {c17_1 : Int32} {c23_4 : Int32} {c24_0 : Int32} {c31_1 : Int32} {a26 : Nat → Int32} {a25 : Nat → Int32} {a32 : Nat → Int32} {a18 : Nat → Int32} (u_17 : H[17]? = some (.inr (4, [.ref 18, .int c17_1]))) (u_0 : H[0]? = some (oO)) (u_23 : H[23]? = some (.inr (9, [.ref 24, .ref 27, .ref 29, .ref 31, .int c23_4]))) (u_24 : H[24]? = some (.inr (7, [.int c24_0, .ref 25, .ref 26]))) (u_31 : H[31]? = some (.inr (4, [.ref 32, .int c31_1]))) (u_26 : H[26]? = some (.inl (0, 20, .inl a26))) (u_25 : H[25]? = some (.inl (0, 180, .inl a25))) (u_32 : H[32]? = some (.inl (0, 9, .inl a32))) (u_18 : H[18]? = some (.inl (0, 18, .inl a18))) {x : ((Nat ⊕ Int32) × (Int32 × Int32 × (Nat → Int32) × (Nat → Int32) × (Nat → Int32)))} (h : q_X11_ware c17_1 c23_4 c24_0 c31_1 a26 a25 a32 a18 = some x) : ∃ H' : List xE, Cm S (d + 5) 124 [.ref 0] (H, z) (oI x.1, (H', oZ x.1 z)) ∧ H'[23]? = some (.inr (9, [.ref 24, .ref 27, .ref 29, .ref 31, .int x.2.1])) ∧ H'[31]? = some (.inr (4, [.ref 32, .int x.2.2.1])) ∧ H'[26]? = some (.inl (0, 20, .inl x.2.2.2.1)) ∧ H'[25]? = some (.inl (0, 180, .inl x.2.2.2.2.1)) ∧ H'[32]? = some (.inl (0, 9, .inl x.2.2.2.2.2)) ∧ xfr [23, 31, 26, 25, 32] H H' := by
  have G : Go S (d + 5) 124 (0, [some (.ref 0), none], []) (H, z) (fun _ _ => False) (fun r => ∃ H' : List xE, r = (oI x.1, (H', oZ x.1 z)) ∧ H'[23]? = some (.inr (9, [.ref 24, .ref 27, .ref 29, .ref 31, .int x.2.1])) ∧ H'[31]? = some (.inr (4, [.ref 32, .int x.2.2.1])) ∧ H'[26]? = some (.inl (0, 20, .inl x.2.2.2.1)) ∧ H'[25]? = some (.inl (0, 180, .inl x.2.2.2.2.1)) ∧ H'[32]? = some (.inl (0, 9, .inl x.2.2.2.2.2)) ∧ xfr [23, 31, 26, 25, 32] H H') := by
    unfold q_X11_ware at h
    refine go_step (fun _ => ev_run 1 (F' := (1, [some (.ref 0), none], [.ref 0])) rfl) ?_
    rcases okx h with ⟨e2, y1, hy1, h⟩ | ⟨v3, y4, hy4, h⟩
    · skip
      cases h
      exact Or.inr ⟨_, ev_callVX (x := (.invokevirtual 318, 3, 151, 10, 1062, .null)) (as := []) (rest := []) rfl rfl u_0 rfl (C_X11_requireDigits (S := S) (d := d + 3) (z := z) u_0 u_17 hy1) rfl, H, rfl, u_23, u_31, u_26, u_25, u_32, xfr_refl⟩
    · skip
      refine go_step (F1 := (4, [some (.ref 0), none], [])) (M1 := (H, z)) (fun _ => ev_callV (x := (.invokevirtual 318, 3, 151, 10, 1062, .null)) (as := []) (rest := []) rfl rfl u_0 (C_X11_requireDigits (S := S) (d := d + 3) (z := z) u_0 u_17 hy4) rfl) ?_
      refine go_step (fun _ => ev_run 1 (F' := (5, [some (.ref 0), none], [.ref 0])) rfl) ?_
      refine go_step (fun _ => ev_getf rfl u_0 rfl) ?_
      refine go_step (F1 := (11, [some (.ref 0), none], [.int (t_X5_size c17_1)])) (M1 := (H, z)) (fun _ => ev_callV (x := (.invokevirtual 109, 3, 53, 4, 396, .null)) (as := []) (rest := []) rfl rfl u_17 (C_X5_size (S := S) (d := d + 4) (z := z) u_17) rfl) ?_
      refine go_step (fun _ => ev_run 1 (F' := (13, [some (.ref 0), none], [.int (9 : Int32), .int (t_X5_size c17_1)])) rfl) ?_
      refine go_icmp rfl (fun (b13 : (t_X5_size c17_1) ≤ (9 : Int32)) => ?_) (fun (b13 : ¬ ((t_X5_size c17_1) ≤ (9 : Int32))) => ?_)
      · have h := (if_pos b13).symm.trans h
        refine go_step (fun _ => ev_run 1 (F' := (28, [some (.ref 0), none], [.ref 0])) rfl) ?_
        refine go_step (fun _ => ev_getf rfl u_0 rfl) ?_
        refine go_step (fun _ => ev_run 1 (F' := (32, [some (.ref 0), none], [.ref 0, .ref 23])) rfl) ?_
        refine go_step (fun _ => ev_getf rfl u_0 rfl) ?_
        obtain ⟨y5, hy5, h⟩ := okb h
        obtain ⟨H6, hCH6, eH6_31, eH6_32, fH6⟩ := C_X10_numberOf (S := S) (d := d) (z := z) u_23 u_24 u_31 u_26 u_25 u_32 u_17 u_18 hy5
        refine go_step (F1 := (38, [some (.ref 0), none], [.int y5.1])) (M1 := (H6, z)) (fun _ => ev_callV (x := (.invokevirtual 336, 3, 95, 9, 1077, .null)) (as := [.ref 17]) (rest := []) rfl rfl u_23 hCH6 rfl) ?_
        refine go_step (fun _ => ev_run 2 (F' := (40, [some (.ref 0), some (.int y5.1)], [.int y5.1])) rfl) ?_
        refine go_if rfl (fun (b40 : y5.1 < (0 : Int32)) => ?_) (fun (b40 : ¬ (y5.1 < (0 : Int32))) => ?_)
        · have h := (if_pos b40).symm.trans h
          refine go_step (fun _ => ev_run 1 (F' := (46, [some (.ref 0), some (.int y5.1)], [.ref 0])) rfl) ?_
          refine go_step (fun _ => ev_getf rfl ((fH6 0 rfl).trans u_0) rfl) ?_
          refine go_step (F1 := (52, [some (.ref 0), some (.int y5.1)], [.int (t_X10_isFull c23_4)])) (M1 := (H6, z)) (fun _ => ev_callV (x := (.invokevirtual 340, 3, 93, 9, 1087, .null)) (as := []) (rest := []) rfl rfl ((fH6 23 rfl).trans u_23) (C_X10_isFull (S := S) (d := d + 4) (z := z) ((fH6 23 rfl).trans u_23)) rfl) ?_
          refine go_if rfl (fun (b52 : (t_X10_isFull c23_4) = (0 : Int32)) => ?_) (fun (b52 : ¬ ((t_X10_isFull c23_4) = (0 : Int32))) => ?_)
          · have h := (if_pos b52).symm.trans h
            refine go_step (fun _ => ev_run 1 (F' := (67, [some (.ref 0), some (.int y5.1)], [.ref 0])) rfl) ?_
            refine go_step (fun _ => ev_getf rfl ((fH6 0 rfl).trans u_0) rfl) ?_
            refine go_step (fun _ => ev_run 1 (F' := (71, [some (.ref 0), some (.int y5.1)], [.ref 0, .ref 23])) rfl) ?_
            refine go_step (fun _ => ev_getf rfl ((fH6 0 rfl).trans u_0) rfl) ?_
            obtain ⟨y7, hy7, h⟩ := okb h
            obtain ⟨H8, hCH8, eH8_23, eH8_26, eH8_25, fH8⟩ := C_X10_added (S := S) (d := d + 2) (z := z) ((fH6 23 rfl).trans u_23) ((fH6 24 rfl).trans u_24) ((fH6 17 rfl).trans u_17) ((fH6 26 rfl).trans u_26) ((fH6 25 rfl).trans u_25) ((fH6 18 rfl).trans u_18) hy7
            refine go_step (F1 := (77, [some (.ref 0), some (.int y5.1)], [.int y7.1])) (M1 := (H8, z)) (fun _ => ev_callV (x := (.invokevirtual 345, 3, 94, 9, 1092, .null)) (as := [.ref 17]) (rest := []) rfl rfl ((fH6 23 rfl).trans u_23) hCH8 rfl) ?_
            cases h
            exact Or.inr ⟨_, ev_ret rfl rfl rfl rfl, H8, rfl, eH8_23, ((fH8 31 rfl).trans eH6_31), eH8_26, eH8_25, ((fH8 32 rfl).trans eH6_32), (xfr_t (xfr_t xfr_refl rfl fH6) rfl fH8)⟩
          · have h := (if_neg b52).symm.trans h
            cases h
            exact Or.inr ⟨_, ev_throw rfl rfl rfl rfl, H6, rfl, ((fH6 23 rfl).trans u_23), eH6_31, ((fH6 26 rfl).trans u_26), ((fH6 25 rfl).trans u_25), eH6_32, (xfr_t xfr_refl rfl fH6)⟩
        · have h := (if_neg b40).symm.trans h
          refine go_step (fun _ => ev_run 1 (F' := (44, [some (.ref 0), some (.int y5.1)], [.int y5.1])) rfl) ?_
          cases h
          exact Or.inr ⟨_, ev_ret rfl rfl rfl rfl, H6, rfl, ((fH6 23 rfl).trans u_23), eH6_31, ((fH6 26 rfl).trans u_26), ((fH6 25 rfl).trans u_25), eH6_32, (xfr_t xfr_refl rfl fH6)⟩
      · have h := (if_neg b13).symm.trans h
        cases h
        exact Or.inr ⟨_, ev_throw rfl rfl rfl rfl, H, rfl, u_23, u_31, u_26, u_25, u_32, xfr_refl⟩
  obtain ⟨_, hE, H', rfl, hrest⟩ := go_end G
  exact ⟨H', hE, hrest⟩
def q_X11_meant (c17_1 : Int32) (c23_4 : Int32) (c24_0 : Int32) (c31_1 : Int32) (a26 : Nat → Int32) (a25 : Nat → Int32) (a32 : Nat → Int32) (a18 : Nat → Int32) : Option ((Nat ⊕ Int32) × (Int32 × (Nat → Int32))) := (xbnd (q_X11_requireDigits c17_1) (fun e2 y1 => (some (Sum.inl e2, (c31_1, a32)))) (fun v3 y4 => ((q_X10_numberOf c23_4 c24_0 c31_1 a26 a25 a32 c17_1 a18).bind (fun y5 => (if y5.1 < (0 : Int32) then ((q_X10_numberNear c23_4 c24_0 y5.2.1 a26 a25 y5.2.2 c17_1 a18).bind (fun y7 => (some (Sum.inr y7.1, (y7.2.1, y7.2.2))))) else (some (Sum.inr y5.1, (y5.2.1, y5.2.2))))))))
theorem C_X11_meant {S : Nat × (Nat → Int32)} {d : Nat} {H : List xE} {z : Bool × Nat × Nat} {c17_1 : Int32} {c23_4 : Int32} {c24_0 : Int32} {c31_1 : Int32} {a26 : Nat → Int32} {a25 : Nat → Int32} {a32 : Nat → Int32} {a18 : Nat → Int32} (u_17 : H[17]? = some (.inr (4, [.ref 18, .int c17_1]))) (u_0 : H[0]? = some (oO)) (u_23 : H[23]? = some (.inr (9, [.ref 24, .ref 27, .ref 29, .ref 31, .int c23_4]))) (u_24 : H[24]? = some (.inr (7, [.int c24_0, .ref 25, .ref 26]))) (u_31 : H[31]? = some (.inr (4, [.ref 32, .int c31_1]))) (u_26 : H[26]? = some (.inl (0, 20, .inl a26))) (u_25 : H[25]? = some (.inl (0, 180, .inl a25))) (u_32 : H[32]? = some (.inl (0, 9, .inl a32))) (u_18 : H[18]? = some (.inl (0, 18, .inl a18))) {x : ((Nat ⊕ Int32) × (Int32 × (Nat → Int32)))} (h : q_X11_meant c17_1 c23_4 c24_0 c31_1 a26 a25 a32 a18 = some x) : ∃ H' : List xE, Cm S (d + 5) 125 [.ref 0] (H, z) (oI x.1, (H', oZ x.1 z)) ∧ H'[31]? = some (.inr (4, [.ref 32, .int x.2.1])) ∧ H'[32]? = some (.inl (0, 9, .inl x.2.2)) ∧ xfr [31, 32] H H' := by
  have G : Go S (d + 5) 125 (0, [some (.ref 0), none], []) (H, z) (fun _ _ => False) (fun r => ∃ H' : List xE, r = (oI x.1, (H', oZ x.1 z)) ∧ H'[31]? = some (.inr (4, [.ref 32, .int x.2.1])) ∧ H'[32]? = some (.inl (0, 9, .inl x.2.2)) ∧ xfr [31, 32] H H') := by
    unfold q_X11_meant at h
    refine go_step (fun _ => ev_run 1 (F' := (1, [some (.ref 0), none], [.ref 0])) rfl) ?_
    rcases okx h with ⟨e2, y1, hy1, h⟩ | ⟨v3, y4, hy4, h⟩
    · skip
      cases h
      exact Or.inr ⟨_, ev_callVX (x := (.invokevirtual 318, 3, 151, 10, 1062, .null)) (as := []) (rest := []) rfl rfl u_0 rfl (C_X11_requireDigits (S := S) (d := d + 3) (z := z) u_0 u_17 hy1) rfl, H, rfl, u_31, u_32, xfr_refl⟩
    · skip
      refine go_step (F1 := (4, [some (.ref 0), none], [])) (M1 := (H, z)) (fun _ => ev_callV (x := (.invokevirtual 318, 3, 151, 10, 1062, .null)) (as := []) (rest := []) rfl rfl u_0 (C_X11_requireDigits (S := S) (d := d + 3) (z := z) u_0 u_17 hy4) rfl) ?_
      refine go_step (fun _ => ev_run 1 (F' := (5, [some (.ref 0), none], [.ref 0])) rfl) ?_
      refine go_step (fun _ => ev_getf rfl u_0 rfl) ?_
      refine go_step (fun _ => ev_run 1 (F' := (9, [some (.ref 0), none], [.ref 0, .ref 23])) rfl) ?_
      refine go_step (fun _ => ev_getf rfl u_0 rfl) ?_
      obtain ⟨y5, hy5, h⟩ := okb h
      obtain ⟨H6, hCH6, eH6_31, eH6_32, fH6⟩ := C_X10_numberOf (S := S) (d := d) (z := z) u_23 u_24 u_31 u_26 u_25 u_32 u_17 u_18 hy5
      refine go_step (F1 := (15, [some (.ref 0), none], [.int y5.1])) (M1 := (H6, z)) (fun _ => ev_callV (x := (.invokevirtual 336, 3, 95, 9, 1077, .null)) (as := [.ref 17]) (rest := []) rfl rfl u_23 hCH6 rfl) ?_
      refine go_step (fun _ => ev_run 2 (F' := (17, [some (.ref 0), some (.int y5.1)], [.int y5.1])) rfl) ?_
      refine go_if rfl (fun (b17 : y5.1 < (0 : Int32)) => ?_) (fun (b17 : ¬ (y5.1 < (0 : Int32))) => ?_)
      · have h := (if_pos b17).symm.trans h
        refine go_step (fun _ => ev_run 1 (F' := (25, [some (.ref 0), some (.int y5.1)], [.ref 0])) rfl) ?_
        refine go_step (fun _ => ev_getf rfl ((fH6 0 rfl).trans u_0) rfl) ?_
        refine go_step (fun _ => ev_run 1 (F' := (29, [some (.ref 0), some (.int y5.1)], [.ref 0, .ref 23])) rfl) ?_
        refine go_step (fun _ => ev_getf rfl ((fH6 0 rfl).trans u_0) rfl) ?_
        obtain ⟨y7, hy7, h⟩ := okb h
        obtain ⟨H8, hCH8, eH8_31, eH8_32, fH8⟩ := C_X10_numberNear (S := S) (d := d) (z := z) ((fH6 23 rfl).trans u_23) ((fH6 24 rfl).trans u_24) eH6_31 ((fH6 26 rfl).trans u_26) ((fH6 25 rfl).trans u_25) eH6_32 ((fH6 17 rfl).trans u_17) ((fH6 18 rfl).trans u_18) hy7
        refine go_step (F1 := (35, [some (.ref 0), some (.int y5.1)], [.int y7.1])) (M1 := (H8, z)) (fun _ => ev_callV (x := (.invokevirtual 348, 3, 96, 9, 1101, .null)) (as := [.ref 17]) (rest := []) rfl rfl ((fH6 23 rfl).trans u_23) hCH8 rfl) ?_
        cases h
        exact Or.inr ⟨_, ev_ret rfl rfl rfl rfl, H8, rfl, eH8_31, eH8_32, (xfr_t (xfr_t xfr_refl rfl fH6) rfl fH8)⟩
      · have h := (if_neg b17).symm.trans h
        refine go_step (fun _ => ev_run 2 (F' := (35, [some (.ref 0), some (.int y5.1)], [.int y5.1])) rfl) ?_
        cases h
        exact Or.inr ⟨_, ev_ret rfl rfl rfl rfl, H6, rfl, eH6_31, eH6_32, (xfr_t xfr_refl rfl fH6)⟩
  obtain ⟨_, hE, H', rfl, hrest⟩ := go_end G
  exact ⟨H', hE, hrest⟩
def q_X11_nextWare (x1 : Int32) (c23_4 : Int32) (c24_0 : Int32) (a26 : Nat → Int32) (a25 : Nat → Int32) (a28 : Nat → Int32) (c31_1 : Int32) (a32 : Nat → Int32) (c29_1 : Int32) (a30 : Nat → Int32) (c27_1 : Int32) : Option ((Nat ⊕ Int32) × ((Nat → Int32) × Int32 × (Nat → Int32) × Int32 × (Nat → Int32) × Int32)) := (if ¬ (t_X10_has x1 c23_4) = (0 : Int32) then ((q_X10_numberBehind x1 c23_4 c24_0 a26 a25 a28 c31_1 a32 c29_1 a30).bind (fun y1 => (some (Sum.inr y1.1, (y1.2.2.1, y1.2.2.2.1, y1.2.2.2.2.1, y1.2.2.2.2.2.1, y1.2.2.2.2.2.2, y1.2.1))))) else (some (Sum.inl 2, (a28, c31_1, a32, c29_1, a30, c27_1))))
theorem C_X11_nextWare {S : Nat × (Nat → Int32)} {d : Nat} {H : List xE} {z : Bool × Nat × Nat} {c23_4 : Int32} {c24_0 : Int32} {a26 : Nat → Int32} {a25 : Nat → Int32} {a28 : Nat → Int32} {c31_1 : Int32} {a32 : Nat → Int32} {c29_1 : Int32} {a30 : Nat → Int32} {c27_1 : Int32} {x1 : Int32} (u_0 : H[0]? = some (oO)) (u_23 : H[23]? = some (.inr (9, [.ref 24, .ref 27, .ref 29, .ref 31, .int c23_4]))) (u_24 : H[24]? = some (.inr (7, [.int c24_0, .ref 25, .ref 26]))) (u_26 : H[26]? = some (.inl (0, 20, .inl a26))) (u_25 : H[25]? = some (.inl (0, 180, .inl a25))) (u_28 : H[28]? = some (.inl (0, 9, .inl a28))) (u_31 : H[31]? = some (.inr (4, [.ref 32, .int c31_1]))) (u_32 : H[32]? = some (.inl (0, 9, .inl a32))) (u_29 : H[29]? = some (.inr (4, [.ref 30, .int c29_1]))) (u_30 : H[30]? = some (.inl (0, 9, .inl a30))) (u_27 : H[27]? = some (.inr (4, [.ref 28, .int c27_1]))) {x : ((Nat ⊕ Int32) × ((Nat → Int32) × Int32 × (Nat → Int32) × Int32 × (Nat → Int32) × Int32))} (h : q_X11_nextWare x1 c23_4 c24_0 a26 a25 a28 c31_1 a32 c29_1 a30 c27_1 = some x) : ∃ H' : List xE, Cm S (d + 5) 126 [.ref 0, .int x1] (H, z) (oI x.1, (H', oZ x.1 z)) ∧ H'[28]? = some (.inl (0, 9, .inl x.2.1)) ∧ H'[31]? = some (.inr (4, [.ref 32, .int x.2.2.1])) ∧ H'[32]? = some (.inl (0, 9, .inl x.2.2.2.1)) ∧ H'[29]? = some (.inr (4, [.ref 30, .int x.2.2.2.2.1])) ∧ H'[30]? = some (.inl (0, 9, .inl x.2.2.2.2.2.1)) ∧ H'[27]? = some (.inr (4, [.ref 28, .int x.2.2.2.2.2.2])) ∧ xfr [28, 31, 32, 29, 30, 27] H H' := by
  have G : Go S (d + 5) 126 (0, [some (.ref 0), some (.int x1)], []) (H, z) (fun _ _ => False) (fun r => ∃ H' : List xE, r = (oI x.1, (H', oZ x.1 z)) ∧ H'[28]? = some (.inl (0, 9, .inl x.2.1)) ∧ H'[31]? = some (.inr (4, [.ref 32, .int x.2.2.1])) ∧ H'[32]? = some (.inl (0, 9, .inl x.2.2.2.1)) ∧ H'[29]? = some (.inr (4, [.ref 30, .int x.2.2.2.2.1])) ∧ H'[30]? = some (.inl (0, 9, .inl x.2.2.2.2.2.1)) ∧ H'[27]? = some (.inr (4, [.ref 28, .int x.2.2.2.2.2.2])) ∧ xfr [28, 31, 32, 29, 30, 27] H H') := by
    unfold q_X11_nextWare at h
    refine go_step (fun _ => ev_run 1 (F' := (1, [some (.ref 0), some (.int x1)], [.ref 0])) rfl) ?_
    refine go_step (fun _ => ev_getf rfl u_0 rfl) ?_
    refine go_step (fun _ => ev_run 1 (F' := (5, [some (.ref 0), some (.int x1)], [.int x1, .ref 23])) rfl) ?_
    refine go_step (F1 := (8, [some (.ref 0), some (.int x1)], [.int (t_X10_has x1 c23_4)])) (M1 := (H, z)) (fun _ => ev_callV (x := (.invokevirtual 351, 3, 92, 9, 1114, .null)) (as := [.int x1]) (rest := []) rfl rfl u_23 (C_X10_has (S := S) (d := d + 4) (z := z) (x1 := x1) u_23) rfl) ?_
    refine go_if rfl (fun (b8 : ¬ (t_X10_has x1 c23_4) = (0 : Int32)) => ?_) (fun (b8 : ¬ (¬ (t_X10_has x1 c23_4) = (0 : Int32))) => ?_)
    · have h := (if_pos b8).symm.trans h
      refine go_step (fun _ => ev_run 1 (F' := (23, [some (.ref 0), some (.int x1)], [.ref 0])) rfl) ?_
      refine go_step (fun _ => ev_getf rfl u_0 rfl) ?_
      refine go_step (fun _ => ev_run 1 (F' := (27, [some (.ref 0), some (.int x1)], [.int x1, .ref 23])) rfl) ?_
      obtain ⟨y1, hy1, h⟩ := okb h
      obtain ⟨H2, hCH2, eH2_27, eH2_28, eH2_31, eH2_32, eH2_29, eH2_30, fH2⟩ := C_X10_numberBehind (S := S) (d := d) (z := z) (x1 := x1) u_23 u_24 u_27 u_26 u_25 u_28 u_31 u_32 u_29 u_30 hy1
      refine go_step (F1 := (30, [some (.ref 0), some (.int x1)], [.int y1.1])) (M1 := (H2, z)) (fun _ => ev_callV (x := (.invokevirtual 357, 3, 97, 9, 1119, .null)) (as := [.int x1]) (rest := []) rfl rfl u_23 hCH2 rfl) ?_
      cases h
      exact Or.inr ⟨_, ev_ret rfl rfl rfl rfl, H2, rfl, eH2_28, eH2_31, eH2_32, eH2_29, eH2_30, eH2_27, (xfr_t xfr_refl rfl fH2)⟩
    · have h := (if_neg b8).symm.trans h
      cases h
      exact Or.inr ⟨_, ev_throw rfl rfl rfl rfl, H, rfl, u_28, u_31, u_32, u_29, u_30, u_27, xfr_refl⟩
  obtain ⟨_, hE, H', rfl, hrest⟩ := go_end G
  exact ⟨H', hE, hrest⟩
def q_X11_fletcher_L6 (c1_1 : Int32) (a2 : Nat → Int32) : Nat → Int32 → Int32 → Int32 → Option (Int32 × Int32 × Int32)
  | 0, _, _, _ => none
  | n + 1, l1, l2, l3 => (if (t_X5_size c1_1) ≤ l3 then (some (l1, l2, l3)) else (q_X11_fletcher_L6 c1_1 a2 n ((l1 + (t_X5_at l3 64 a2)) - (l1 + (t_X5_at l3 64 a2)) / (255 : Int32) * (255 : Int32)) ((l2 + ((l1 + (t_X5_at l3 64 a2)) - (l1 + (t_X5_at l3 64 a2)) / (255 : Int32) * (255 : Int32))) - (l2 + ((l1 + (t_X5_at l3 64 a2)) - (l1 + (t_X5_at l3 64 a2)) / (255 : Int32) * (255 : Int32))) / (255 : Int32) * (255 : Int32)) (l3 + (1 : Int32))))
def q_X11_fletcher (c1_1 : Int32) (a2 : Nat → Int32) : Option Int32 := ((q_X11_fletcher_L6 c1_1 a2 10000 (0 : Int32) (0 : Int32) (0 : Int32)).bind (fun y1 => (some (((256 : Int32) * y1.2.1) + y1.1))))
theorem L_X11_fletcher_L6 {S : Nat × (Nat → Int32)} {d : Nat} {z : Bool × Nat × Nat} {c1_1 : Int32} {a2 : Nat → Int32} {H : List xE} (u_0 : H[0]? = some (oO)) (u_1 : H[1]? = some (.inr (4, [.ref 2, .int c1_1]))) (u_2 : H[2]? = some (.inl (0, 64, .inl a2))) : ∀ (n : Nat) (l1 : Int32) (l2 : Int32) (l3 : Int32) x, q_X11_fletcher_L6 c1_1 a2 n l1 l2 l3 = some x → Go S (d + 1) 127 (6, [some (.ref 0), some (.int l1), some (.int l2), some (.int l3)], []) (H, z) (fun F' M' =>  F' = (46, [none, some (.int x.1), some (.int x.2.1), none], []) ∧ M' = (H, z)) (fun _ => False) := by
  intro n
  induction n with
  | zero =>
    intro l1 l2 l3 x h
    unfold q_X11_fletcher_L6 at h
    cases h
  | succ n ih =>
    intro l1 l2 l3 x h
    unfold q_X11_fletcher_L6 at h
    refine go_step (fun _ => ev_run 2 (F' := (8, [some (.ref 0), some (.int l1), some (.int l2), some (.int l3)], [.ref 0, .int l3])) rfl) ?_
    refine go_step (fun _ => ev_getf rfl u_0 rfl) ?_
    refine go_step (F1 := (14, [some (.ref 0), some (.int l1), some (.int l2), some (.int l3)], [.int (t_X5_size c1_1), .int l3])) (M1 := (H, z)) (fun _ => ev_callV (x := (.invokevirtual 109, 3, 53, 4, 396, .null)) (as := []) (rest := [.int l3]) rfl rfl u_1 (C_X5_size (S := S) (d := d) (z := z) u_1) rfl) ?_
    refine go_icmp rfl (fun (b14 : (t_X5_size c1_1) ≤ l3) => ?_) (fun (b14 : ¬ ((t_X5_size c1_1) ≤ l3)) => ?_)
    · have h := (if_pos b14).symm.trans h
      refine go_step (fun _ => ev_forget (L' := [none, some (.int l1), some (.int l2), none]) (show xleP _ [some (.ref 0), some (.int l1), some (.int l2), some (.int l3)] from ⟨rfl, ⟨rfl, trivial⟩⟩) rfl) ?_
      cases h
      exact Or.inl ⟨_, _, fun r hr => hr, rfl, rfl⟩
    · have h := (if_neg b14).symm.trans h
      refine go_step (fun _ => ev_run 2 (F' := (19, [some (.ref 0), some (.int l1), some (.int l2), some (.int l3)], [.ref 0, .int l1])) rfl) ?_
      refine go_step (fun _ => ev_getf rfl u_0 rfl) ?_
      refine go_step (fun _ => ev_run 1 (F' := (23, [some (.ref 0), some (.int l1), some (.int l2), some (.int l3)], [.int l3, .ref 1, .int l1])) rfl) ?_
      refine go_step (F1 := (26, [some (.ref 0), some (.int l1), some (.int l2), some (.int l3)], [.int (t_X5_at l3 64 a2), .int l1])) (M1 := (H, z)) (fun _ => ev_callV (x := (.invokevirtual 132, 3, 55, 4, 572, .null)) (as := [.int l3]) (rest := [.int l1]) rfl rfl u_1 (C_X5_at (S := S) (d := d) (z := z) (x1 := l3) u_1 u_2 (by decide)) rfl) ?_
      refine go_step (fun _ => ev_run 2 (F' := (30, [some (.ref 0), some (.int l1), some (.int l2), some (.int l3)], [.int (255 : Int32), .int (l1 + (t_X5_at l3 64 a2))])) rfl) ?_
      refine go_step (fun _ => ev_rem rfl (by decide)) ?_
      refine go_step (fun _ => ev_run 5 (F' := (38, [some (.ref 0), some (.int ((l1 + (t_X5_at l3 64 a2)) - (l1 + (t_X5_at l3 64 a2)) / (255 : Int32) * (255 : Int32))), some (.int l2), some (.int l3)], [.int (255 : Int32), .int (l2 + ((l1 + (t_X5_at l3 64 a2)) - (l1 + (t_X5_at l3 64 a2)) / (255 : Int32) * (255 : Int32)))])) rfl) ?_
      refine go_step (fun _ => ev_rem rfl (by decide)) ?_
      refine go_step (fun _ => ev_run 3 (F' := (6, [some (.ref 0), some (.int ((l1 + (t_X5_at l3 64 a2)) - (l1 + (t_X5_at l3 64 a2)) / (255 : Int32) * (255 : Int32))), some (.int ((l2 + ((l1 + (t_X5_at l3 64 a2)) - (l1 + (t_X5_at l3 64 a2)) / (255 : Int32) * (255 : Int32))) - (l2 + ((l1 + (t_X5_at l3 64 a2)) - (l1 + (t_X5_at l3 64 a2)) / (255 : Int32) * (255 : Int32))) / (255 : Int32) * (255 : Int32))), some (.int (l3 + (1 : Int32)))], [])) rfl) ?_
      exact ih ((l1 + (t_X5_at l3 64 a2)) - (l1 + (t_X5_at l3 64 a2)) / (255 : Int32) * (255 : Int32)) ((l2 + ((l1 + (t_X5_at l3 64 a2)) - (l1 + (t_X5_at l3 64 a2)) / (255 : Int32) * (255 : Int32))) - (l2 + ((l1 + (t_X5_at l3 64 a2)) - (l1 + (t_X5_at l3 64 a2)) / (255 : Int32) * (255 : Int32))) / (255 : Int32) * (255 : Int32)) (l3 + (1 : Int32)) _ h
theorem C_X11_fletcher {S : Nat × (Nat → Int32)} {d : Nat} {H : List xE} {z : Bool × Nat × Nat} {c1_1 : Int32} {a2 : Nat → Int32} (u_0 : H[0]? = some (oO)) (u_1 : H[1]? = some (.inr (4, [.ref 2, .int c1_1]))) (u_2 : H[2]? = some (.inl (0, 64, .inl a2))) {x : Int32} (h : q_X11_fletcher c1_1 a2 = some x) : Cm S (d + 1) 127 [.ref 0] (H, z) (.inr (some (.int x)), (H, z)) := by
  have G : Go S (d + 1) 127 (0, [some (.ref 0), none, none, none], []) (H, z) (fun _ _ => False) (fun r => r = (.inr (some (.int x)), (H, z))) := by
    unfold q_X11_fletcher at h
    refine go_step (fun _ => ev_run 6 (F' := (6, [some (.ref 0), some (.int (0 : Int32)), some (.int (0 : Int32)), some (.int (0 : Int32))], [])) rfl) ?_
    obtain ⟨y1, hy1, h⟩ := okb h
    obtain ⟨_, _, hr2, rfl, rfl⟩ := go_nr (L_X11_fletcher_L6 (S := S) (d := d) (z := z) u_0 u_1 u_2 10000 (0 : Int32) (0 : Int32) (0 : Int32) _ hy1)
    refine go_step hr2 ?_
    refine go_step (fun _ => ev_run 5 (F' := (53, [none, some (.int y1.1), some (.int y1.2.1), none], [.int (((256 : Int32) * y1.2.1) + y1.1)])) rfl) ?_
    cases h
    exact Or.inr ⟨_, ev_ret rfl rfl rfl rfl, rfl⟩
  obtain ⟨_, hE, rfl⟩ := go_end G
  exact hE
def q_X11_adler_L6 (c1_1 : Int32) (a2 : Nat → Int32) : Nat → Int32 → Int32 → Int32 → Option (Int32 × Int32 × Int32)
  | 0, _, _, _ => none
  | n + 1, l1, l2, l3 => (if (t_X5_size c1_1) ≤ l3 then (some (l1, l2, l3)) else (q_X11_adler_L6 c1_1 a2 n ((l1 + (t_X5_at l3 64 a2)) - (l1 + (t_X5_at l3 64 a2)) / (65521 : Int32) * (65521 : Int32)) ((l2 + ((l1 + (t_X5_at l3 64 a2)) - (l1 + (t_X5_at l3 64 a2)) / (65521 : Int32) * (65521 : Int32))) - (l2 + ((l1 + (t_X5_at l3 64 a2)) - (l1 + (t_X5_at l3 64 a2)) / (65521 : Int32) * (65521 : Int32))) / (65521 : Int32) * (65521 : Int32)) (l3 + (1 : Int32))))
def q_X11_adler (c1_1 : Int32) (a2 : Nat → Int32) : Option Int64 := ((q_X11_adler_L6 c1_1 a2 10000 (1 : Int32) (0 : Int32) (0 : Int32)).bind (fun y1 => (some (((65536 : Int64) * (y1.2.1.toInt64)) + (y1.1.toInt64)))))
theorem L_X11_adler_L6 {S : Nat × (Nat → Int32)} {d : Nat} {z : Bool × Nat × Nat} {c1_1 : Int32} {a2 : Nat → Int32} {H : List xE} (u_0 : H[0]? = some (oO)) (u_1 : H[1]? = some (.inr (4, [.ref 2, .int c1_1]))) (u_2 : H[2]? = some (.inl (0, 64, .inl a2))) : ∀ (n : Nat) (l1 : Int32) (l2 : Int32) (l3 : Int32) x, q_X11_adler_L6 c1_1 a2 n l1 l2 l3 = some x → Go S (d + 1) 128 (6, [some (.ref 0), some (.int l1), some (.int l2), some (.int l3)], []) (H, z) (fun F' M' =>  F' = (46, [none, some (.int x.1), some (.int x.2.1), none], []) ∧ M' = (H, z)) (fun _ => False) := by
  intro n
  induction n with
  | zero =>
    intro l1 l2 l3 x h
    unfold q_X11_adler_L6 at h
    cases h
  | succ n ih =>
    intro l1 l2 l3 x h
    unfold q_X11_adler_L6 at h
    refine go_step (fun _ => ev_run 2 (F' := (8, [some (.ref 0), some (.int l1), some (.int l2), some (.int l3)], [.ref 0, .int l3])) rfl) ?_
    refine go_step (fun _ => ev_getf rfl u_0 rfl) ?_
    refine go_step (F1 := (14, [some (.ref 0), some (.int l1), some (.int l2), some (.int l3)], [.int (t_X5_size c1_1), .int l3])) (M1 := (H, z)) (fun _ => ev_callV (x := (.invokevirtual 109, 3, 53, 4, 396, .null)) (as := []) (rest := [.int l3]) rfl rfl u_1 (C_X5_size (S := S) (d := d) (z := z) u_1) rfl) ?_
    refine go_icmp rfl (fun (b14 : (t_X5_size c1_1) ≤ l3) => ?_) (fun (b14 : ¬ ((t_X5_size c1_1) ≤ l3)) => ?_)
    · have h := (if_pos b14).symm.trans h
      refine go_step (fun _ => ev_forget (L' := [none, some (.int l1), some (.int l2), none]) (show xleP _ [some (.ref 0), some (.int l1), some (.int l2), some (.int l3)] from ⟨rfl, ⟨rfl, trivial⟩⟩) rfl) ?_
      cases h
      exact Or.inl ⟨_, _, fun r hr => hr, rfl, rfl⟩
    · have h := (if_neg b14).symm.trans h
      refine go_step (fun _ => ev_run 2 (F' := (19, [some (.ref 0), some (.int l1), some (.int l2), some (.int l3)], [.ref 0, .int l1])) rfl) ?_
      refine go_step (fun _ => ev_getf rfl u_0 rfl) ?_
      refine go_step (fun _ => ev_run 1 (F' := (23, [some (.ref 0), some (.int l1), some (.int l2), some (.int l3)], [.int l3, .ref 1, .int l1])) rfl) ?_
      refine go_step (F1 := (26, [some (.ref 0), some (.int l1), some (.int l2), some (.int l3)], [.int (t_X5_at l3 64 a2), .int l1])) (M1 := (H, z)) (fun _ => ev_callV (x := (.invokevirtual 132, 3, 55, 4, 572, .null)) (as := [.int l3]) (rest := [.int l1]) rfl rfl u_1 (C_X5_at (S := S) (d := d) (z := z) (x1 := l3) u_1 u_2 (by decide)) rfl) ?_
      refine go_step (fun _ => ev_run 2 (F' := (30, [some (.ref 0), some (.int l1), some (.int l2), some (.int l3)], [.int (65521 : Int32), .int (l1 + (t_X5_at l3 64 a2))])) rfl) ?_
      refine go_step (fun _ => ev_rem rfl (by decide)) ?_
      refine go_step (fun _ => ev_run 5 (F' := (38, [some (.ref 0), some (.int ((l1 + (t_X5_at l3 64 a2)) - (l1 + (t_X5_at l3 64 a2)) / (65521 : Int32) * (65521 : Int32))), some (.int l2), some (.int l3)], [.int (65521 : Int32), .int (l2 + ((l1 + (t_X5_at l3 64 a2)) - (l1 + (t_X5_at l3 64 a2)) / (65521 : Int32) * (65521 : Int32)))])) rfl) ?_
      refine go_step (fun _ => ev_rem rfl (by decide)) ?_
      refine go_step (fun _ => ev_run 3 (F' := (6, [some (.ref 0), some (.int ((l1 + (t_X5_at l3 64 a2)) - (l1 + (t_X5_at l3 64 a2)) / (65521 : Int32) * (65521 : Int32))), some (.int ((l2 + ((l1 + (t_X5_at l3 64 a2)) - (l1 + (t_X5_at l3 64 a2)) / (65521 : Int32) * (65521 : Int32))) - (l2 + ((l1 + (t_X5_at l3 64 a2)) - (l1 + (t_X5_at l3 64 a2)) / (65521 : Int32) * (65521 : Int32))) / (65521 : Int32) * (65521 : Int32))), some (.int (l3 + (1 : Int32)))], [])) rfl) ?_
      exact ih ((l1 + (t_X5_at l3 64 a2)) - (l1 + (t_X5_at l3 64 a2)) / (65521 : Int32) * (65521 : Int32)) ((l2 + ((l1 + (t_X5_at l3 64 a2)) - (l1 + (t_X5_at l3 64 a2)) / (65521 : Int32) * (65521 : Int32))) - (l2 + ((l1 + (t_X5_at l3 64 a2)) - (l1 + (t_X5_at l3 64 a2)) / (65521 : Int32) * (65521 : Int32))) / (65521 : Int32) * (65521 : Int32)) (l3 + (1 : Int32)) _ h
theorem C_X11_adler {S : Nat × (Nat → Int32)} {d : Nat} {H : List xE} {z : Bool × Nat × Nat} {c1_1 : Int32} {a2 : Nat → Int32} (u_0 : H[0]? = some (oO)) (u_1 : H[1]? = some (.inr (4, [.ref 2, .int c1_1]))) (u_2 : H[2]? = some (.inl (0, 64, .inl a2))) {x : Int64} (h : q_X11_adler c1_1 a2 = some x) : Cm S (d + 1) 128 [.ref 0] (H, z) (.inr (some (.long x)), (H, z)) := by
  have G : Go S (d + 1) 128 (0, [some (.ref 0), none, none, none], []) (H, z) (fun _ _ => False) (fun r => r = (.inr (some (.long x)), (H, z))) := by
    unfold q_X11_adler at h
    refine go_step (fun _ => ev_run 6 (F' := (6, [some (.ref 0), some (.int (1 : Int32)), some (.int (0 : Int32)), some (.int (0 : Int32))], [])) rfl) ?_
    obtain ⟨y1, hy1, h⟩ := okb h
    obtain ⟨_, _, hr2, rfl, rfl⟩ := go_nr (L_X11_adler_L6 (S := S) (d := d) (z := z) u_0 u_1 u_2 10000 (1 : Int32) (0 : Int32) (0 : Int32) _ hy1)
    refine go_step hr2 ?_
    refine go_step (fun _ => ev_run 7 (F' := (55, [none, some (.int y1.1), some (.int y1.2.1), none], [.long (((65536 : Int64) * (y1.2.1.toInt64)) + (y1.1.toInt64))])) rfl) ?_
    cases h
    exact Or.inr ⟨_, ev_ret rfl rfl rfl rfl, rfl⟩
  obtain ⟨_, hE, rfl⟩ := go_end G
  exact hE
def q_X11_requireWindow (x0 : Int32) : Option ((Nat ⊕ Unit) × Unit) := (if x0 < (1 : Int32) then (some (Sum.inl 0, ())) else (if x0 ≤ (8 : Int32) then (some (Sum.inr (), ())) else (some (Sum.inl 0, ()))))
theorem C_X11_requireWindow {S : Nat × (Nat → Int32)} {d : Nat} {H : List xE} {z : Bool × Nat × Nat} {x0 : Int32} {x : ((Nat ⊕ Unit) × Unit)} (h : q_X11_requireWindow x0 = some x) : Cm S d 153 [.int x0] (H, z) (oU x.1, (H, oZ x.1 z)) := by
  have G : Go S d 153 (0, [some (.int x0)], []) (H, z) (fun _ _ => False) (fun r => r = (oU x.1, (H, oZ x.1 z))) := by
    unfold q_X11_requireWindow at h
    refine go_step (fun _ => ev_run 2 (F' := (2, [some (.int x0)], [.int (1 : Int32), .int x0])) rfl) ?_
    refine go_icmp rfl (fun (b2 : x0 < (1 : Int32)) => ?_) (fun (b2 : ¬ (x0 < (1 : Int32))) => ?_)
    · have h := (if_pos b2).symm.trans h
      cases h
      exact Or.inr ⟨_, ev_throw rfl rfl rfl rfl, rfl⟩
    · have h := (if_neg b2).symm.trans h
      refine go_step (fun _ => ev_run 2 (F' := (8, [some (.int x0)], [.int (8 : Int32), .int x0])) rfl) ?_
      refine go_icmp rfl (fun (b8 : x0 ≤ (8 : Int32)) => ?_) (fun (b8 : ¬ (x0 ≤ (8 : Int32))) => ?_)
      · have h := (if_pos b8).symm.trans h
        cases h
        exact Or.inr ⟨_, ev_ret rfl rfl rfl rfl, rfl⟩
      · have h := (if_neg b8).symm.trans h
        cases h
        exact Or.inr ⟨_, ev_throw rfl rfl rfl rfl, rfl⟩
  obtain ⟨_, hE, rfl⟩ := go_end G
  exact hE
def q_X11_rolling (x1 : Int32) (x2 : Int32) (c1_1 : Int32) (a2 : Nat → Int32) : Option ((Nat ⊕ Int32) × Unit) := (xbnd (q_X11_requirePlace x1 c1_1) (fun e2 y1 => (some (Sum.inl e2, ()))) (fun v3 y4 => (xbnd (q_X11_requireWindow x2) (fun e6 y5 => (some (Sum.inl e6, ()))) (fun v7 y8 => (if (x2 - (1 : Int32)) ≤ x1 then ((q_X0_rollingSum x1 x2 64 a2).bind (fun y9 => (some (Sum.inr y9, ())))) else (some (Sum.inl 3, ())))))))
theorem C_X11_rolling {S : Nat × (Nat → Int32)} {d : Nat} {H : List xE} {z : Bool × Nat × Nat} {c1_1 : Int32} {a2 : Nat → Int32} {x1 : Int32} {x2 : Int32} (u_1 : H[1]? = some (.inr (4, [.ref 2, .int c1_1]))) (u_0 : H[0]? = some (oO)) (u_2 : H[2]? = some (.inl (0, 64, .inl a2))) {x : ((Nat ⊕ Int32) × Unit)} (h : q_X11_rolling x1 x2 c1_1 a2 = some x) : Cm S (d + 2) 129 [.ref 0, .int x1, .int x2] (H, z) (oI x.1, (H, oZ x.1 z)) := by
  have G : Go S (d + 2) 129 (0, [some (.ref 0), some (.int x1), some (.int x2)], []) (H, z) (fun _ _ => False) (fun r => r = (oI x.1, (H, oZ x.1 z))) := by
    unfold q_X11_rolling at h
    refine go_step (fun _ => ev_run 2 (F' := (2, [some (.ref 0), some (.int x1), some (.int x2)], [.int x1, .ref 0])) rfl) ?_
    rcases okx h with ⟨e2, y1, hy1, h⟩ | ⟨v3, y4, hy4, h⟩
    · skip
      cases h
      exact Or.inr ⟨_, ev_callVX (x := (.invokevirtual 129, 3, 146, 10, 686, .null)) (as := [.int x1]) (rest := []) rfl rfl u_0 rfl (C_X11_requirePlace (S := S) (d := d) (z := z) (x1 := x1) u_0 u_1 hy1) rfl, rfl⟩
    · skip
      refine go_step (F1 := (5, [some (.ref 0), some (.int x1), some (.int x2)], [])) (M1 := (H, z)) (fun _ => ev_callV (x := (.invokevirtual 129, 3, 146, 10, 686, .null)) (as := [.int x1]) (rest := []) rfl rfl u_0 (C_X11_requirePlace (S := S) (d := d) (z := z) (x1 := x1) u_0 u_1 hy4) rfl) ?_
      refine go_step (fun _ => ev_run 1 (F' := (6, [some (.ref 0), some (.int x1), some (.int x2)], [.int x2])) rfl) ?_
      rcases okx h with ⟨e6, y5, hy5, h⟩ | ⟨v7, y8, hy8, h⟩
      · skip
        cases h
        exact Or.inr ⟨_, ev_callX (x := (.invokestatic 363, 3, 153, 10, 1206, .null)) (as := [.int x2]) (rest := []) rfl rfl rfl (C_X11_requireWindow (S := S) (d := d + 1) (z := z) (x0 := x2) hy5) rfl, rfl⟩
      · skip
        refine go_step (F1 := (9, [some (.ref 0), some (.int x1), some (.int x2)], [])) (M1 := (H, z)) (fun _ => ev_call (x := (.invokestatic 363, 3, 153, 10, 1206, .null)) (as := [.int x2]) (rest := []) rfl rfl (C_X11_requireWindow (S := S) (d := d + 1) (z := z) (x0 := x2) hy8) rfl) ?_
        refine go_step (fun _ => ev_run 4 (F' := (13, [some (.ref 0), some (.int x1), some (.int x2)], [.int (x2 - (1 : Int32)), .int x1])) rfl) ?_
        refine go_icmp rfl (fun (b13 : (x2 - (1 : Int32)) ≤ x1) => ?_) (fun (b13 : ¬ ((x2 - (1 : Int32)) ≤ x1)) => ?_)
        · have h := (if_pos b13).symm.trans h
          refine go_step (fun _ => ev_run 1 (F' := (28, [some (.ref 0), some (.int x1), some (.int x2)], [.ref 0])) rfl) ?_
          refine go_step (fun _ => ev_getf rfl u_0 rfl) ?_
          refine go_step (fun _ => ev_run 2 (F' := (33, [some (.ref 0), some (.int x1), some (.int x2)], [.int x2, .int x1, .ref 1])) rfl) ?_
          obtain ⟨y9, hy9, h⟩ := okb h
          refine go_step (F1 := (36, [some (.ref 0), some (.int x1), some (.int x2)], [.int y9])) (M1 := (H, z)) (fun _ => ev_call (x := (.invokestatic 368, 3, 1, 0, 1247, .null)) (as := [.ref 1, .int x1, .int x2]) (rest := []) rfl rfl (C_X0_rollingSum (S := S) (d := d) (z := z) (x1 := x1) (x2 := x2) u_1 u_2 (by decide) hy9) rfl) ?_
          cases h
          exact Or.inr ⟨_, ev_ret rfl rfl rfl rfl, rfl⟩
        · have h := (if_neg b13).symm.trans h
          cases h
          exact Or.inr ⟨_, ev_throw rfl rfl rfl rfl, rfl⟩
  obtain ⟨_, hE, rfl⟩ := go_end G
  exact hE
def q_X11_requireStep (x0 : Int32) : Option ((Nat ⊕ Unit) × Unit) := (if x0 < (2 : Int32) then (some (Sum.inl 0, ())) else (if x0 ≤ (64 : Int32) then (some (Sum.inr (), ())) else (some (Sum.inl 0, ()))))
theorem C_X11_requireStep {S : Nat × (Nat → Int32)} {d : Nat} {H : List xE} {z : Bool × Nat × Nat} {x0 : Int32} {x : ((Nat ⊕ Unit) × Unit)} (h : q_X11_requireStep x0 = some x) : Cm S d 154 [.int x0] (H, z) (oU x.1, (H, oZ x.1 z)) := by
  have G : Go S d 154 (0, [some (.int x0)], []) (H, z) (fun _ _ => False) (fun r => r = (oU x.1, (H, oZ x.1 z))) := by
    unfold q_X11_requireStep at h
    refine go_step (fun _ => ev_run 2 (F' := (2, [some (.int x0)], [.int (2 : Int32), .int x0])) rfl) ?_
    refine go_icmp rfl (fun (b2 : x0 < (2 : Int32)) => ?_) (fun (b2 : ¬ (x0 < (2 : Int32))) => ?_)
    · have h := (if_pos b2).symm.trans h
      cases h
      exact Or.inr ⟨_, ev_throw rfl rfl rfl rfl, rfl⟩
    · have h := (if_neg b2).symm.trans h
      refine go_step (fun _ => ev_run 2 (F' := (8, [some (.int x0)], [.int (64 : Int32), .int x0])) rfl) ?_
      refine go_icmp rfl (fun (b8 : x0 ≤ (64 : Int32)) => ?_) (fun (b8 : ¬ (x0 ≤ (64 : Int32))) => ?_)
      · have h := (if_pos b8).symm.trans h
        cases h
        exact Or.inr ⟨_, ev_ret rfl rfl rfl rfl, rfl⟩
      · have h := (if_neg b8).symm.trans h
        cases h
        exact Or.inr ⟨_, ev_throw rfl rfl rfl rfl, rfl⟩
  obtain ⟨_, hE, rfl⟩ := go_end G
  exact hE
def q_X11_chunks (x1 : Int32) (x2 : Int32) (c35_3 : Int32) (c36_1 : Int32) (c1_1 : Int32) (a37 : Nat → Int32) (a2 : Nat → Int32) (a38 : Nat → Int32) : Option ((Nat ⊕ Int32) × (Int32 × Int32 × (Nat → Int32) × (Nat → Int32))) := (xbnd (q_X11_requireWindow x1) (fun e2 y1 => (some (Sum.inl e2, (c35_3, c36_1, a37, a38)))) (fun v3 y4 => (xbnd (q_X11_requireStep x2) (fun e6 y5 => (some (Sum.inl e6, (c35_3, c36_1, a37, a38)))) (fun v7 y8 => ((q_X0_cut x1 x2 c1_1 65 a37 64 a2 a38).bind (fun y9 => (some (Sum.inr (t_X0_count y9.1), (y9.1, y9.2.1, y9.2.2.1, y9.2.2.2)))))))))
theorem C_X11_chunks {S : Nat × (Nat → Int32)} {d : Nat} {H : List xE} {z : Bool × Nat × Nat} {c35_3 : Int32} {c36_1 : Int32} {c1_1 : Int32} {a37 : Nat → Int32} {a2 : Nat → Int32} {a38 : Nat → Int32} {x1 : Int32} {x2 : Int32} (u_0 : H[0]? = some (oO)) (u_35 : H[35]? = some (.inr (0, [.ref 36, .ref 38, .ref 39, .int c35_3]))) (u_36 : H[36]? = some (.inr (4, [.ref 37, .int c36_1]))) (u_1 : H[1]? = some (.inr (4, [.ref 2, .int c1_1]))) (u_37 : H[37]? = some (.inl (0, 65, .inl a37))) (u_2 : H[2]? = some (.inl (0, 64, .inl a2))) (u_38 : H[38]? = some (.inl (0, 65, .inl a38))) {x : ((Nat ⊕ Int32) × (Int32 × Int32 × (Nat → Int32) × (Nat → Int32)))} (h : q_X11_chunks x1 x2 c35_3 c36_1 c1_1 a37 a2 a38 = some x) : ∃ H' : List xE, Cm S (d + 4) 130 [.ref 0, .int x1, .int x2] (H, z) (oI x.1, (H', oZ x.1 z)) ∧ H'[35]? = some (.inr (0, [.ref 36, .ref 38, .ref 39, .int x.2.1])) ∧ H'[36]? = some (.inr (4, [.ref 37, .int x.2.2.1])) ∧ H'[37]? = some (.inl (0, 65, .inl x.2.2.2.1)) ∧ H'[38]? = some (.inl (0, 65, .inl x.2.2.2.2)) ∧ xfr [35, 36, 37, 38] H H' := by
  have G : Go S (d + 4) 130 (0, [some (.ref 0), some (.int x1), some (.int x2)], []) (H, z) (fun _ _ => False) (fun r => ∃ H' : List xE, r = (oI x.1, (H', oZ x.1 z)) ∧ H'[35]? = some (.inr (0, [.ref 36, .ref 38, .ref 39, .int x.2.1])) ∧ H'[36]? = some (.inr (4, [.ref 37, .int x.2.2.1])) ∧ H'[37]? = some (.inl (0, 65, .inl x.2.2.2.1)) ∧ H'[38]? = some (.inl (0, 65, .inl x.2.2.2.2)) ∧ xfr [35, 36, 37, 38] H H') := by
    unfold q_X11_chunks at h
    refine go_step (fun _ => ev_run 1 (F' := (1, [some (.ref 0), some (.int x1), some (.int x2)], [.int x1])) rfl) ?_
    rcases okx h with ⟨e2, y1, hy1, h⟩ | ⟨v3, y4, hy4, h⟩
    · skip
      cases h
      exact Or.inr ⟨_, ev_callX (x := (.invokestatic 363, 3, 153, 10, 1206, .null)) (as := [.int x1]) (rest := []) rfl rfl rfl (C_X11_requireWindow (S := S) (d := d + 3) (z := z) (x0 := x1) hy1) rfl, H, rfl, u_35, u_36, u_37, u_38, xfr_refl⟩
    · skip
      refine go_step (F1 := (4, [some (.ref 0), some (.int x1), some (.int x2)], [])) (M1 := (H, z)) (fun _ => ev_call (x := (.invokestatic 363, 3, 153, 10, 1206, .null)) (as := [.int x1]) (rest := []) rfl rfl (C_X11_requireWindow (S := S) (d := d + 3) (z := z) (x0 := x1) hy4) rfl) ?_
      refine go_step (fun _ => ev_run 1 (F' := (5, [some (.ref 0), some (.int x1), some (.int x2)], [.int x2])) rfl) ?_
      rcases okx h with ⟨e6, y5, hy5, h⟩ | ⟨v7, y8, hy8, h⟩
      · skip
        cases h
        exact Or.inr ⟨_, ev_callX (x := (.invokestatic 372, 3, 154, 10, 1210, .null)) (as := [.int x2]) (rest := []) rfl rfl rfl (C_X11_requireStep (S := S) (d := d + 3) (z := z) (x0 := x2) hy5) rfl, H, rfl, u_35, u_36, u_37, u_38, xfr_refl⟩
      · skip
        refine go_step (F1 := (8, [some (.ref 0), some (.int x1), some (.int x2)], [])) (M1 := (H, z)) (fun _ => ev_call (x := (.invokestatic 372, 3, 154, 10, 1210, .null)) (as := [.int x2]) (rest := []) rfl rfl (C_X11_requireStep (S := S) (d := d + 3) (z := z) (x0 := x2) hy8) rfl) ?_
        refine go_step (fun _ => ev_run 1 (F' := (9, [some (.ref 0), some (.int x1), some (.int x2)], [.ref 0])) rfl) ?_
        refine go_step (fun _ => ev_getf rfl u_0 rfl) ?_
        refine go_step (fun _ => ev_run 1 (F' := (13, [some (.ref 0), some (.int x1), some (.int x2)], [.ref 0, .ref 35])) rfl) ?_
        refine go_step (fun _ => ev_getf rfl u_0 rfl) ?_
        refine go_step (fun _ => ev_run 2 (F' := (18, [some (.ref 0), some (.int x1), some (.int x2)], [.int x2, .int x1, .ref 1, .ref 35])) rfl) ?_
        obtain ⟨y9, hy9, h⟩ := okb h
        obtain ⟨H10, hCH10, eH10_35, eH10_36, eH10_37, eH10_38, fH10⟩ := C_X0_cut (S := S) (d := d) (z := z) (x2 := x1) (x3 := x2) u_35 u_36 u_1 u_37 u_2 u_38 (nb rfl) (nb rfl) (nb rfl) (nb rfl) (nb rfl) (nb rfl) (nb rfl) (nb rfl) (nb rfl) (nb rfl) (nb rfl) (nb rfl) (by decide) (by decide) hy9
        refine go_step (F1 := (21, [some (.ref 0), some (.int x1), some (.int x2)], [])) (M1 := (H10, z)) (fun _ => ev_callV (x := (.invokevirtual 375, 3, 2, 0, 1214, .null)) (as := [.ref 1, .int x1, .int x2]) (rest := []) rfl rfl u_35 hCH10 rfl) ?_
        refine go_step (fun _ => ev_run 1 (F' := (22, [some (.ref 0), some (.int x1), some (.int x2)], [.ref 0])) rfl) ?_
        refine go_step (fun _ => ev_getf rfl ((fH10 0 rfl).trans u_0) rfl) ?_
        refine go_step (F1 := (28, [some (.ref 0), some (.int x1), some (.int x2)], [.int (t_X0_count y9.1)])) (M1 := (H10, z)) (fun _ => ev_callV (x := (.invokevirtual 379, 3, 3, 0, 1229, .null)) (as := []) (rest := []) rfl rfl eH10_35 (C_X0_count (S := S) (d := d + 3) (z := z) eH10_35) rfl) ?_
        cases h
        exact Or.inr ⟨_, ev_ret rfl rfl rfl rfl, H10, rfl, eH10_35, eH10_36, eH10_37, eH10_38, (xfr_t xfr_refl rfl fH10)⟩
  obtain ⟨_, hE, H', rfl, hrest⟩ := go_end G
  exact ⟨H', hE, hrest⟩
def q_X11_chunkEnd (x1 : Int32) (x2 : Int32) (x3 : Int32) (c35_3 : Int32) (c36_1 : Int32) (c1_1 : Int32) (a37 : Nat → Int32) (a2 : Nat → Int32) (a38 : Nat → Int32) : Option ((Nat ⊕ Int32) × (Int32 × Int32 × (Nat → Int32) × (Nat → Int32))) := (xbnd (q_X11_requireWindow x1) (fun e2 y1 => (some (Sum.inl e2, (c35_3, c36_1, a37, a38)))) (fun v3 y4 => (xbnd (q_X11_requireStep x2) (fun e6 y5 => (some (Sum.inl e6, (c35_3, c36_1, a37, a38)))) (fun v7 y8 => ((q_X0_cut x1 x2 c1_1 65 a37 64 a2 a38).bind (fun y9 => (if x3 < (0 : Int32) then (some (Sum.inl 2, (y9.1, y9.2.1, y9.2.2.1, y9.2.2.2))) else (if x3 < (t_X0_count y9.1) then (some (Sum.inr (t_X0_endOf x3 y9.2.2.2), (y9.1, y9.2.1, y9.2.2.1, y9.2.2.2))) else (some (Sum.inl 2, (y9.1, y9.2.1, y9.2.2.1, y9.2.2.2)))))))))))
theorem C_X11_chunkEnd {S : Nat × (Nat → Int32)} {d : Nat} {H : List xE} {z : Bool × Nat × Nat} {c35_3 : Int32} {c36_1 : Int32} {c1_1 : Int32} {a37 : Nat → Int32} {a2 : Nat → Int32} {a38 : Nat → Int32} {x1 : Int32} {x2 : Int32} {x3 : Int32} (u_0 : H[0]? = some (oO)) (u_35 : H[35]? = some (.inr (0, [.ref 36, .ref 38, .ref 39, .int c35_3]))) (u_36 : H[36]? = some (.inr (4, [.ref 37, .int c36_1]))) (u_1 : H[1]? = some (.inr (4, [.ref 2, .int c1_1]))) (u_37 : H[37]? = some (.inl (0, 65, .inl a37))) (u_2 : H[2]? = some (.inl (0, 64, .inl a2))) (u_38 : H[38]? = some (.inl (0, 65, .inl a38))) {x : ((Nat ⊕ Int32) × (Int32 × Int32 × (Nat → Int32) × (Nat → Int32)))} (h : q_X11_chunkEnd x1 x2 x3 c35_3 c36_1 c1_1 a37 a2 a38 = some x) : ∃ H' : List xE, Cm S (d + 4) 131 [.ref 0, .int x1, .int x2, .int x3] (H, z) (oI x.1, (H', oZ x.1 z)) ∧ H'[35]? = some (.inr (0, [.ref 36, .ref 38, .ref 39, .int x.2.1])) ∧ H'[36]? = some (.inr (4, [.ref 37, .int x.2.2.1])) ∧ H'[37]? = some (.inl (0, 65, .inl x.2.2.2.1)) ∧ H'[38]? = some (.inl (0, 65, .inl x.2.2.2.2)) ∧ xfr [35, 36, 37, 38] H H' := by
  have G : Go S (d + 4) 131 (0, [some (.ref 0), some (.int x1), some (.int x2), some (.int x3)], []) (H, z) (fun _ _ => False) (fun r => ∃ H' : List xE, r = (oI x.1, (H', oZ x.1 z)) ∧ H'[35]? = some (.inr (0, [.ref 36, .ref 38, .ref 39, .int x.2.1])) ∧ H'[36]? = some (.inr (4, [.ref 37, .int x.2.2.1])) ∧ H'[37]? = some (.inl (0, 65, .inl x.2.2.2.1)) ∧ H'[38]? = some (.inl (0, 65, .inl x.2.2.2.2)) ∧ xfr [35, 36, 37, 38] H H') := by
    unfold q_X11_chunkEnd at h
    refine go_step (fun _ => ev_run 1 (F' := (1, [some (.ref 0), some (.int x1), some (.int x2), some (.int x3)], [.int x1])) rfl) ?_
    rcases okx h with ⟨e2, y1, hy1, h⟩ | ⟨v3, y4, hy4, h⟩
    · skip
      cases h
      exact Or.inr ⟨_, ev_callX (x := (.invokestatic 363, 3, 153, 10, 1206, .null)) (as := [.int x1]) (rest := []) rfl rfl rfl (C_X11_requireWindow (S := S) (d := d + 3) (z := z) (x0 := x1) hy1) rfl, H, rfl, u_35, u_36, u_37, u_38, xfr_refl⟩
    · skip
      refine go_step (F1 := (4, [some (.ref 0), some (.int x1), some (.int x2), some (.int x3)], [])) (M1 := (H, z)) (fun _ => ev_call (x := (.invokestatic 363, 3, 153, 10, 1206, .null)) (as := [.int x1]) (rest := []) rfl rfl (C_X11_requireWindow (S := S) (d := d + 3) (z := z) (x0 := x1) hy4) rfl) ?_
      refine go_step (fun _ => ev_run 1 (F' := (5, [some (.ref 0), some (.int x1), some (.int x2), some (.int x3)], [.int x2])) rfl) ?_
      rcases okx h with ⟨e6, y5, hy5, h⟩ | ⟨v7, y8, hy8, h⟩
      · skip
        cases h
        exact Or.inr ⟨_, ev_callX (x := (.invokestatic 372, 3, 154, 10, 1210, .null)) (as := [.int x2]) (rest := []) rfl rfl rfl (C_X11_requireStep (S := S) (d := d + 3) (z := z) (x0 := x2) hy5) rfl, H, rfl, u_35, u_36, u_37, u_38, xfr_refl⟩
      · skip
        refine go_step (F1 := (8, [some (.ref 0), some (.int x1), some (.int x2), some (.int x3)], [])) (M1 := (H, z)) (fun _ => ev_call (x := (.invokestatic 372, 3, 154, 10, 1210, .null)) (as := [.int x2]) (rest := []) rfl rfl (C_X11_requireStep (S := S) (d := d + 3) (z := z) (x0 := x2) hy8) rfl) ?_
        refine go_step (fun _ => ev_run 1 (F' := (9, [some (.ref 0), some (.int x1), some (.int x2), some (.int x3)], [.ref 0])) rfl) ?_
        refine go_step (fun _ => ev_getf rfl u_0 rfl) ?_
        refine go_step (fun _ => ev_run 1 (F' := (13, [some (.ref 0), some (.int x1), some (.int x2), some (.int x3)], [.ref 0, .ref 35])) rfl) ?_
        refine go_step (fun _ => ev_getf rfl u_0 rfl) ?_
        refine go_step (fun _ => ev_run 2 (F' := (18, [some (.ref 0), some (.int x1), some (.int x2), some (.int x3)], [.int x2, .int x1, .ref 1, .ref 35])) rfl) ?_
        obtain ⟨y9, hy9, h⟩ := okb h
        obtain ⟨H10, hCH10, eH10_35, eH10_36, eH10_37, eH10_38, fH10⟩ := C_X0_cut (S := S) (d := d) (z := z) (x2 := x1) (x3 := x2) u_35 u_36 u_1 u_37 u_2 u_38 (nb rfl) (nb rfl) (nb rfl) (nb rfl) (nb rfl) (nb rfl) (nb rfl) (nb rfl) (nb rfl) (nb rfl) (nb rfl) (nb rfl) (by decide) (by decide) hy9
        refine go_step (F1 := (21, [some (.ref 0), some (.int x1), some (.int x2), some (.int x3)], [])) (M1 := (H10, z)) (fun _ => ev_callV (x := (.invokevirtual 375, 3, 2, 0, 1214, .null)) (as := [.ref 1, .int x1, .int x2]) (rest := []) rfl rfl u_35 hCH10 rfl) ?_
        refine go_step (fun _ => ev_run 1 (F' := (22, [some (.ref 0), some (.int x1), some (.int x2), some (.int x3)], [.int x3])) rfl) ?_
        refine go_if rfl (fun (b22 : x3 < (0 : Int32)) => ?_) (fun (b22 : ¬ (x3 < (0 : Int32))) => ?_)
        · have h := (if_pos b22).symm.trans h
          cases h
          exact Or.inr ⟨_, ev_throw rfl rfl rfl rfl, H10, rfl, eH10_35, eH10_36, eH10_37, eH10_38, (xfr_t xfr_refl rfl fH10)⟩
        · have h := (if_neg b22).symm.trans h
          refine go_step (fun _ => ev_run 2 (F' := (27, [some (.ref 0), some (.int x1), some (.int x2), some (.int x3)], [.ref 0, .int x3])) rfl) ?_
          refine go_step (fun _ => ev_getf rfl ((fH10 0 rfl).trans u_0) rfl) ?_
          refine go_step (F1 := (33, [some (.ref 0), some (.int x1), some (.int x2), some (.int x3)], [.int (t_X0_count y9.1), .int x3])) (M1 := (H10, z)) (fun _ => ev_callV (x := (.invokevirtual 379, 3, 3, 0, 1229, .null)) (as := []) (rest := [.int x3]) rfl rfl eH10_35 (C_X0_count (S := S) (d := d + 3) (z := z) eH10_35) rfl) ?_
          refine go_icmp rfl (fun (b33 : x3 < (t_X0_count y9.1)) => ?_) (fun (b33 : ¬ (x3 < (t_X0_count y9.1))) => ?_)
          · have h := (if_pos b33).symm.trans h
            refine go_step (fun _ => ev_run 1 (F' := (48, [some (.ref 0), some (.int x1), some (.int x2), some (.int x3)], [.ref 0])) rfl) ?_
            refine go_step (fun _ => ev_getf rfl ((fH10 0 rfl).trans u_0) rfl) ?_
            refine go_step (fun _ => ev_run 1 (F' := (52, [some (.ref 0), some (.int x1), some (.int x2), some (.int x3)], [.int x3, .ref 35])) rfl) ?_
            refine go_step (F1 := (55, [some (.ref 0), some (.int x1), some (.int x2), some (.int x3)], [.int (t_X0_endOf x3 y9.2.2.2)])) (M1 := (H10, z)) (fun _ => ev_callV (x := (.invokevirtual 384, 3, 4, 0, 1238, .null)) (as := [.int x3]) (rest := []) rfl rfl eH10_35 (C_X0_endOf (S := S) (d := d + 3) (z := z) (x1 := x3) eH10_35 eH10_38) rfl) ?_
            cases h
            exact Or.inr ⟨_, ev_ret rfl rfl rfl rfl, H10, rfl, eH10_35, eH10_36, eH10_37, eH10_38, (xfr_t xfr_refl rfl fH10)⟩
          · have h := (if_neg b33).symm.trans h
            cases h
            exact Or.inr ⟨_, ev_throw rfl rfl rfl rfl, H10, rfl, eH10_35, eH10_36, eH10_37, eH10_38, (xfr_t xfr_refl rfl fH10)⟩
  obtain ⟨_, hE, H', rfl, hrest⟩ := go_end G
  exact ⟨H', hE, hrest⟩
def q_X11_stays (x1 : Int32) (x2 : Int32) (x3 : Int32) (x4 : Int32) (c1_1 : Int32) (c33_1 : Int32) (a34 : Nat → Int32) (a2 : Nat → Int32) (c35_3 : Int32) (c36_1 : Int32) (a37 : Nat → Int32) (a38 : Nat → Int32) (c40_3 : Int32) (c41_1 : Int32) (a42 : Nat → Int32) (a43 : Nat → Int32) (a44 : Nat → Int32) : Option ((Nat ⊕ Int32) × (Int32 × (Nat → Int32) × Int32 × Int32 × (Nat → Int32) × (Nat → Int32) × Int32 × Int32 × (Nat → Int32) × (Nat → Int32) × (Nat → Int32))) := (xbnd (q_X11_requireWindow x1) (fun e2 y1 => (some (Sum.inl e2, (c33_1, a34, c35_3, c36_1, a37, a38, c40_3, c41_1, a42, a43, a44)))) (fun v3 y4 => (xbnd (q_X11_requireStep x2) (fun e6 y5 => (some (Sum.inl e6, (c33_1, a34, c35_3, c36_1, a37, a38, c40_3, c41_1, a42, a43, a44)))) (fun v7 y8 => (xbnd (q_X11_requireByte x4) (fun e10 y9 => (some (Sum.inl e10, (c33_1, a34, c35_3, c36_1, a37, a38, c40_3, c41_1, a42, a43, a44)))) (fun v11 y12 => (xbnd (q_X11_requirePlaceOrEnd x3 c1_1) (fun e14 y13 => (some (Sum.inl e14, (c33_1, a34, c35_3, c36_1, a37, a38, c40_3, c41_1, a42, a43, a44)))) (fun v15 y16 => ((q_X5_copy c1_1 65 a34 64 a2).bind (fun y17 => ((q_X5_openAt x3 x4 y17.1 65 y17.2).bind (fun y19 => ((q_X0_cut x1 x2 c1_1 65 a37 64 a2 a38).bind (fun y21 => ((q_X0_cut x1 x2 y19.1 65 a42 65 y19.2 a43).bind (fun y23 => ((q_X0_countIn a44 y23.1 y21.1 y23.2.2.2 y21.2.2.2 y23.2.2.1 y21.2.2.1).bind (fun y25 => (some (Sum.inr y25.1, (y19.1, y19.2, y21.1, y21.2.1, y21.2.2.1, y21.2.2.2, y23.1, y23.2.1, y23.2.2.1, y23.2.2.2, y25.2)))))))))))))))))))))
theorem C_X11_stays {S : Nat × (Nat → Int32)} {d : Nat} {H : List xE} {z : Bool × Nat × Nat} {c1_1 : Int32} {c33_1 : Int32} {a34 : Nat → Int32} {a2 : Nat → Int32} {c35_3 : Int32} {c36_1 : Int32} {a37 : Nat → Int32} {a38 : Nat → Int32} {c40_3 : Int32} {c41_1 : Int32} {a42 : Nat → Int32} {a43 : Nat → Int32} {a44 : Nat → Int32} {x1 : Int32} {x2 : Int32} {x3 : Int32} {x4 : Int32} (u_1 : H[1]? = some (.inr (4, [.ref 2, .int c1_1]))) (u_0 : H[0]? = some (oO)) (u_33 : H[33]? = some (.inr (4, [.ref 34, .int c33_1]))) (u_34 : H[34]? = some (.inl (0, 65, .inl a34))) (u_2 : H[2]? = some (.inl (0, 64, .inl a2))) (u_35 : H[35]? = some (.inr (0, [.ref 36, .ref 38, .ref 39, .int c35_3]))) (u_36 : H[36]? = some (.inr (4, [.ref 37, .int c36_1]))) (u_37 : H[37]? = some (.inl (0, 65, .inl a37))) (u_38 : H[38]? = some (.inl (0, 65, .inl a38))) (u_40 : H[40]? = some (.inr (0, [.ref 41, .ref 43, .ref 44, .int c40_3]))) (u_41 : H[41]? = some (.inr (4, [.ref 42, .int c41_1]))) (u_42 : H[42]? = some (.inl (0, 65, .inl a42))) (u_43 : H[43]? = some (.inl (0, 65, .inl a43))) (u_44 : H[44]? = some (.inl (2, 65, .inl a44))) {x : ((Nat ⊕ Int32) × (Int32 × (Nat → Int32) × Int32 × Int32 × (Nat → Int32) × (Nat → Int32) × Int32 × Int32 × (Nat → Int32) × (Nat → Int32) × (Nat → Int32)))} (h : q_X11_stays x1 x2 x3 x4 c1_1 c33_1 a34 a2 c35_3 c36_1 a37 a38 c40_3 c41_1 a42 a43 a44 = some x) : ∃ H' : List xE, Cm S (d + 4) 132 [.ref 0, .int x1, .int x2, .int x3, .int x4] (H, z) (oI x.1, (H', oZ x.1 z)) ∧ H'[33]? = some (.inr (4, [.ref 34, .int x.2.1])) ∧ H'[34]? = some (.inl (0, 65, .inl x.2.2.1)) ∧ H'[35]? = some (.inr (0, [.ref 36, .ref 38, .ref 39, .int x.2.2.2.1])) ∧ H'[36]? = some (.inr (4, [.ref 37, .int x.2.2.2.2.1])) ∧ H'[37]? = some (.inl (0, 65, .inl x.2.2.2.2.2.1)) ∧ H'[38]? = some (.inl (0, 65, .inl x.2.2.2.2.2.2.1)) ∧ H'[40]? = some (.inr (0, [.ref 41, .ref 43, .ref 44, .int x.2.2.2.2.2.2.2.1])) ∧ H'[41]? = some (.inr (4, [.ref 42, .int x.2.2.2.2.2.2.2.2.1])) ∧ H'[42]? = some (.inl (0, 65, .inl x.2.2.2.2.2.2.2.2.2.1)) ∧ H'[43]? = some (.inl (0, 65, .inl x.2.2.2.2.2.2.2.2.2.2.1)) ∧ H'[44]? = some (.inl (2, 65, .inl x.2.2.2.2.2.2.2.2.2.2.2)) ∧ xfr [33, 34, 35, 36, 37, 38, 40, 41, 42, 43, 44] H H' := by
  have G : Go S (d + 4) 132 (0, [some (.ref 0), some (.int x1), some (.int x2), some (.int x3), some (.int x4)], []) (H, z) (fun _ _ => False) (fun r => ∃ H' : List xE, r = (oI x.1, (H', oZ x.1 z)) ∧ H'[33]? = some (.inr (4, [.ref 34, .int x.2.1])) ∧ H'[34]? = some (.inl (0, 65, .inl x.2.2.1)) ∧ H'[35]? = some (.inr (0, [.ref 36, .ref 38, .ref 39, .int x.2.2.2.1])) ∧ H'[36]? = some (.inr (4, [.ref 37, .int x.2.2.2.2.1])) ∧ H'[37]? = some (.inl (0, 65, .inl x.2.2.2.2.2.1)) ∧ H'[38]? = some (.inl (0, 65, .inl x.2.2.2.2.2.2.1)) ∧ H'[40]? = some (.inr (0, [.ref 41, .ref 43, .ref 44, .int x.2.2.2.2.2.2.2.1])) ∧ H'[41]? = some (.inr (4, [.ref 42, .int x.2.2.2.2.2.2.2.2.1])) ∧ H'[42]? = some (.inl (0, 65, .inl x.2.2.2.2.2.2.2.2.2.1)) ∧ H'[43]? = some (.inl (0, 65, .inl x.2.2.2.2.2.2.2.2.2.2.1)) ∧ H'[44]? = some (.inl (2, 65, .inl x.2.2.2.2.2.2.2.2.2.2.2)) ∧ xfr [33, 34, 35, 36, 37, 38, 40, 41, 42, 43, 44] H H') := by
    unfold q_X11_stays at h
    refine go_step (fun _ => ev_run 1 (F' := (1, [some (.ref 0), some (.int x1), some (.int x2), some (.int x3), some (.int x4)], [.int x1])) rfl) ?_
    rcases okx h with ⟨e2, y1, hy1, h⟩ | ⟨v3, y4, hy4, h⟩
    · skip
      cases h
      exact Or.inr ⟨_, ev_callX (x := (.invokestatic 363, 3, 153, 10, 1206, .null)) (as := [.int x1]) (rest := []) rfl rfl rfl (C_X11_requireWindow (S := S) (d := d + 3) (z := z) (x0 := x1) hy1) rfl, H, rfl, u_33, u_34, u_35, u_36, u_37, u_38, u_40, u_41, u_42, u_43, u_44, xfr_refl⟩
    · skip
      refine go_step (F1 := (4, [some (.ref 0), some (.int x1), some (.int x2), some (.int x3), some (.int x4)], [])) (M1 := (H, z)) (fun _ => ev_call (x := (.invokestatic 363, 3, 153, 10, 1206, .null)) (as := [.int x1]) (rest := []) rfl rfl (C_X11_requireWindow (S := S) (d := d + 3) (z := z) (x0 := x1) hy4) rfl) ?_
      refine go_step (fun _ => ev_run 1 (F' := (5, [some (.ref 0), some (.int x1), some (.int x2), some (.int x3), some (.int x4)], [.int x2])) rfl) ?_
      rcases okx h with ⟨e6, y5, hy5, h⟩ | ⟨v7, y8, hy8, h⟩
      · skip
        cases h
        exact Or.inr ⟨_, ev_callX (x := (.invokestatic 372, 3, 154, 10, 1210, .null)) (as := [.int x2]) (rest := []) rfl rfl rfl (C_X11_requireStep (S := S) (d := d + 3) (z := z) (x0 := x2) hy5) rfl, H, rfl, u_33, u_34, u_35, u_36, u_37, u_38, u_40, u_41, u_42, u_43, u_44, xfr_refl⟩
      · skip
        refine go_step (F1 := (8, [some (.ref 0), some (.int x1), some (.int x2), some (.int x3), some (.int x4)], [])) (M1 := (H, z)) (fun _ => ev_call (x := (.invokestatic 372, 3, 154, 10, 1210, .null)) (as := [.int x2]) (rest := []) rfl rfl (C_X11_requireStep (S := S) (d := d + 3) (z := z) (x0 := x2) hy8) rfl) ?_
        refine go_step (fun _ => ev_run 1 (F' := (10, [some (.ref 0), some (.int x1), some (.int x2), some (.int x3), some (.int x4)], [.int x4])) rfl) ?_
        rcases okx h with ⟨e10, y9, hy9, h⟩ | ⟨v11, y12, hy12, h⟩
        · skip
          cases h
          exact Or.inr ⟨_, ev_callX (x := (.invokestatic 136, 3, 152, 10, 694, .null)) (as := [.int x4]) (rest := []) rfl rfl rfl (C_X11_requireByte (S := S) (d := d + 3) (z := z) (x0 := x4) hy9) rfl, H, rfl, u_33, u_34, u_35, u_36, u_37, u_38, u_40, u_41, u_42, u_43, u_44, xfr_refl⟩
        · skip
          refine go_step (F1 := (13, [some (.ref 0), some (.int x1), some (.int x2), some (.int x3), some (.int x4)], [])) (M1 := (H, z)) (fun _ => ev_call (x := (.invokestatic 136, 3, 152, 10, 694, .null)) (as := [.int x4]) (rest := []) rfl rfl (C_X11_requireByte (S := S) (d := d + 3) (z := z) (x0 := x4) hy12) rfl) ?_
          refine go_step (fun _ => ev_run 2 (F' := (15, [some (.ref 0), some (.int x1), some (.int x2), some (.int x3), some (.int x4)], [.int x3, .ref 0])) rfl) ?_
          rcases okx h with ⟨e14, y13, hy13, h⟩ | ⟨v15, y16, hy16, h⟩
          · skip
            cases h
            exact Or.inr ⟨_, ev_callVX (x := (.invokevirtual 143, 3, 147, 10, 677, .null)) (as := [.int x3]) (rest := []) rfl rfl u_0 rfl (C_X11_requirePlaceOrEnd (S := S) (d := d + 2) (z := z) (x1 := x3) u_0 u_1 hy13) rfl, H, rfl, u_33, u_34, u_35, u_36, u_37, u_38, u_40, u_41, u_42, u_43, u_44, xfr_refl⟩
          · skip
            refine go_step (F1 := (18, [some (.ref 0), some (.int x1), some (.int x2), some (.int x3), some (.int x4)], [])) (M1 := (H, z)) (fun _ => ev_callV (x := (.invokevirtual 143, 3, 147, 10, 677, .null)) (as := [.int x3]) (rest := []) rfl rfl u_0 (C_X11_requirePlaceOrEnd (S := S) (d := d + 2) (z := z) (x1 := x3) u_0 u_1 hy16) rfl) ?_
            refine go_step (fun _ => ev_run 1 (F' := (19, [some (.ref 0), some (.int x1), some (.int x2), some (.int x3), some (.int x4)], [.ref 0])) rfl) ?_
            refine go_step (fun _ => ev_getf rfl u_0 rfl) ?_
            refine go_step (fun _ => ev_run 1 (F' := (23, [some (.ref 0), some (.int x1), some (.int x2), some (.int x3), some (.int x4)], [.ref 0, .ref 33])) rfl) ?_
            refine go_step (fun _ => ev_getf rfl u_0 rfl) ?_
            obtain ⟨y17, hy17, h⟩ := okb h
            obtain ⟨H18, hCH18, eH18_33, eH18_34, fH18⟩ := C_X5_copy (S := S) (d := d + 2) (z := z) u_1 u_33 u_34 u_2 (nb rfl) (nb rfl) (nb rfl) (nb rfl) (nb rfl) (by decide) (by decide) hy17
            refine go_step (F1 := (29, [some (.ref 0), some (.int x1), some (.int x2), some (.int x3), some (.int x4)], [])) (M1 := (H18, z)) (fun _ => ev_callV (x := (.invokevirtual 387, 3, 60, 4, 1252, .null)) (as := [.ref 1]) (rest := []) rfl rfl u_33 hCH18 rfl) ?_
            refine go_step (fun _ => ev_run 1 (F' := (30, [some (.ref 0), some (.int x1), some (.int x2), some (.int x3), some (.int x4)], [.ref 0])) rfl) ?_
            refine go_step (fun _ => ev_getf rfl ((fH18 0 rfl).trans u_0) rfl) ?_
            refine go_step (fun _ => ev_run 2 (F' := (36, [some (.ref 0), some (.int x1), some (.int x2), some (.int x3), some (.int x4)], [.int x4, .int x3, .ref 33])) rfl) ?_
            obtain ⟨y19, hy19, h⟩ := okb h
            obtain ⟨H20, hCH20, eH20_33, eH20_34, fH20⟩ := C_X5_openAt (S := S) (d := d + 2) (z := z) (x1 := x3) (x2 := x4) eH18_33 eH18_34 (nb rfl) (by decide) hy19
            refine go_step (F1 := (39, [some (.ref 0), some (.int x1), some (.int x2), some (.int x3), some (.int x4)], [])) (M1 := (H20, z)) (fun _ => ev_callV (x := (.invokevirtual 148, 3, 58, 4, 1253, .null)) (as := [.int x3, .int x4]) (rest := []) rfl rfl eH18_33 hCH20 rfl) ?_
            refine go_step (fun _ => ev_run 1 (F' := (40, [some (.ref 0), some (.int x1), some (.int x2), some (.int x3), some (.int x4)], [.ref 0])) rfl) ?_
            refine go_step (fun _ => ev_getf rfl ((fH20 0 rfl).trans ((fH18 0 rfl).trans u_0)) rfl) ?_
            refine go_step (fun _ => ev_run 1 (F' := (44, [some (.ref 0), some (.int x1), some (.int x2), some (.int x3), some (.int x4)], [.ref 0, .ref 35])) rfl) ?_
            refine go_step (fun _ => ev_getf rfl ((fH20 0 rfl).trans ((fH18 0 rfl).trans u_0)) rfl) ?_
            refine go_step (fun _ => ev_run 2 (F' := (49, [some (.ref 0), some (.int x1), some (.int x2), some (.int x3), some (.int x4)], [.int x2, .int x1, .ref 1, .ref 35])) rfl) ?_
            obtain ⟨y21, hy21, h⟩ := okb h
            obtain ⟨H22, hCH22, eH22_35, eH22_36, eH22_37, eH22_38, fH22⟩ := C_X0_cut (S := S) (d := d) (z := z) (x2 := x1) (x3 := x2) ((fH20 35 rfl).trans ((fH18 35 rfl).trans u_35)) ((fH20 36 rfl).trans ((fH18 36 rfl).trans u_36)) ((fH20 1 rfl).trans ((fH18 1 rfl).trans u_1)) ((fH20 37 rfl).trans ((fH18 37 rfl).trans u_37)) ((fH20 2 rfl).trans ((fH18 2 rfl).trans u_2)) ((fH20 38 rfl).trans ((fH18 38 rfl).trans u_38)) (nb rfl) (nb rfl) (nb rfl) (nb rfl) (nb rfl) (nb rfl) (nb rfl) (nb rfl) (nb rfl) (nb rfl) (nb rfl) (nb rfl) (by decide) (by decide) hy21
            refine go_step (F1 := (52, [some (.ref 0), some (.int x1), some (.int x2), some (.int x3), some (.int x4)], [])) (M1 := (H22, z)) (fun _ => ev_callV (x := (.invokevirtual 375, 3, 2, 0, 1214, .null)) (as := [.ref 1, .int x1, .int x2]) (rest := []) rfl rfl ((fH20 35 rfl).trans ((fH18 35 rfl).trans u_35)) hCH22 rfl) ?_
            refine go_step (fun _ => ev_run 1 (F' := (53, [some (.ref 0), some (.int x1), some (.int x2), some (.int x3), some (.int x4)], [.ref 0])) rfl) ?_
            refine go_step (fun _ => ev_getf rfl ((fH22 0 rfl).trans ((fH20 0 rfl).trans ((fH18 0 rfl).trans u_0))) rfl) ?_
            refine go_step (fun _ => ev_run 1 (F' := (57, [some (.ref 0), some (.int x1), some (.int x2), some (.int x3), some (.int x4)], [.ref 0, .ref 40])) rfl) ?_
            refine go_step (fun _ => ev_getf rfl ((fH22 0 rfl).trans ((fH20 0 rfl).trans ((fH18 0 rfl).trans u_0))) rfl) ?_
            refine go_step (fun _ => ev_run 2 (F' := (62, [some (.ref 0), some (.int x1), some (.int x2), some (.int x3), some (.int x4)], [.int x2, .int x1, .ref 33, .ref 40])) rfl) ?_
            obtain ⟨y23, hy23, h⟩ := okb h
            obtain ⟨H24, hCH24, eH24_40, eH24_41, eH24_42, eH24_43, fH24⟩ := C_X0_cut (S := S) (d := d) (z := z) (x2 := x1) (x3 := x2) ((fH22 40 rfl).trans ((fH20 40 rfl).trans ((fH18 40 rfl).trans u_40))) ((fH22 41 rfl).trans ((fH20 41 rfl).trans ((fH18 41 rfl).trans u_41))) ((fH22 33 rfl).trans eH20_33) ((fH22 42 rfl).trans ((fH20 42 rfl).trans ((fH18 42 rfl).trans u_42))) ((fH22 34 rfl).trans eH20_34) ((fH22 43 rfl).trans ((fH20 43 rfl).trans ((fH18 43 rfl).trans u_43))) (nb rfl) (nb rfl) (nb rfl) (nb rfl) (nb rfl) (nb rfl) (nb rfl) (nb rfl) (nb rfl) (nb rfl) (nb rfl) (nb rfl) (by decide) (by decide) hy23
            refine go_step (F1 := (65, [some (.ref 0), some (.int x1), some (.int x2), some (.int x3), some (.int x4)], [])) (M1 := (H24, z)) (fun _ => ev_callV (x := (.invokevirtual 375, 3, 2, 0, 1214, .null)) (as := [.ref 33, .int x1, .int x2]) (rest := []) rfl rfl ((fH22 40 rfl).trans ((fH20 40 rfl).trans ((fH18 40 rfl).trans u_40))) hCH24 rfl) ?_
            refine go_step (fun _ => ev_run 1 (F' := (66, [some (.ref 0), some (.int x1), some (.int x2), some (.int x3), some (.int x4)], [.ref 0])) rfl) ?_
            refine go_step (fun _ => ev_getf rfl ((fH24 0 rfl).trans ((fH22 0 rfl).trans ((fH20 0 rfl).trans ((fH18 0 rfl).trans u_0)))) rfl) ?_
            refine go_step (fun _ => ev_run 1 (F' := (70, [some (.ref 0), some (.int x1), some (.int x2), some (.int x3), some (.int x4)], [.ref 0, .ref 35])) rfl) ?_
            refine go_step (fun _ => ev_getf rfl ((fH24 0 rfl).trans ((fH22 0 rfl).trans ((fH20 0 rfl).trans ((fH18 0 rfl).trans u_0)))) rfl) ?_
            obtain ⟨y25, hy25, h⟩ := okb h
            obtain ⟨H26, hCH26, eH26_44, fH26⟩ := C_X0_countIn (S := S) (d := d) (z := z) ((fH24 44 rfl).trans ((fH22 44 rfl).trans ((fH20 44 rfl).trans ((fH18 44 rfl).trans u_44)))) eH24_40 ((fH24 35 rfl).trans eH22_35) eH24_43 ((fH24 38 rfl).trans eH22_38) eH24_42 ((fH24 37 rfl).trans eH22_37) eH24_41 ((fH24 36 rfl).trans eH22_36) hy25
            refine go_step (F1 := (76, [some (.ref 0), some (.int x1), some (.int x2), some (.int x3), some (.int x4)], [.int y25.1])) (M1 := (H26, z)) (fun _ => ev_callV (x := (.invokevirtual 389, 3, 5, 0, 1254, .null)) (as := [.ref 40]) (rest := []) rfl rfl ((fH24 35 rfl).trans eH22_35) hCH26 rfl) ?_
            cases h
            exact Or.inr ⟨_, ev_ret rfl rfl rfl rfl, H26, rfl, ((fH26 33 rfl).trans ((fH24 33 rfl).trans ((fH22 33 rfl).trans eH20_33))), ((fH26 34 rfl).trans ((fH24 34 rfl).trans ((fH22 34 rfl).trans eH20_34))), ((fH26 35 rfl).trans ((fH24 35 rfl).trans eH22_35)), ((fH26 36 rfl).trans ((fH24 36 rfl).trans eH22_36)), ((fH26 37 rfl).trans ((fH24 37 rfl).trans eH22_37)), ((fH26 38 rfl).trans ((fH24 38 rfl).trans eH22_38)), ((fH26 40 rfl).trans eH24_40), ((fH26 41 rfl).trans eH24_41), ((fH26 42 rfl).trans eH24_42), ((fH26 43 rfl).trans eH24_43), eH26_44, (xfr_t (xfr_t (xfr_t (xfr_t (xfr_t xfr_refl rfl fH18) rfl fH20) rfl fH22) rfl fH24) rfl fH26)⟩
  obtain ⟨_, hE, H', rfl, hrest⟩ := go_end G
  exact ⟨H', hE, hrest⟩
def q_X11_root (c1_1 : Int32) (a2 : Nat → Int32) (a46 : Nat → Int64) (a47 : Nat → Int32) (c45_2 : Int32) : Option ((Nat ⊕ Int64) × ((Nat → Int64) × (Nat → Int32) × Int32)) := (if ¬ (t_X5_size c1_1) = (0 : Int32) then ((q_X9_grow c1_1 a2 a46 a47).bind (fun y1 => (some (Sum.inr (t_X9_topSum y1.2.1 y1.1), (y1.1, y1.2.2, y1.2.1))))) else (some (Sum.inl 3, (a46, a47, c45_2))))
theorem C_X11_root {S : Nat × (Nat → Int32)} {d : Nat} {H : List xE} {z : Bool × Nat × Nat} {c1_1 : Int32} {a2 : Nat → Int32} {a46 : Nat → Int64} {a47 : Nat → Int32} {c45_2 : Int32} (u_0 : H[0]? = some (oO)) (u_1 : H[1]? = some (.inr (4, [.ref 2, .int c1_1]))) (u_2 : H[2]? = some (.inl (0, 64, .inl a2))) (u_46 : H[46]? = some (.inl (1, 80, .inr (.inl a46)))) (u_47 : H[47]? = some (.inl (0, 5, .inl a47))) (u_45 : H[45]? = some (.inr (8, [.ref 46, .ref 47, .int c45_2]))) {x : ((Nat ⊕ Int64) × ((Nat → Int64) × (Nat → Int32) × Int32))} (h : q_X11_root c1_1 a2 a46 a47 c45_2 = some x) : ∃ H' : List xE, Cm S (d + 5) 133 [.ref 0] (H, z) (oL x.1, (H', oZ x.1 z)) ∧ H'[46]? = some (.inl (1, 80, .inr (.inl x.2.1))) ∧ H'[47]? = some (.inl (0, 5, .inl x.2.2.1)) ∧ H'[45]? = some (.inr (8, [.ref 46, .ref 47, .int x.2.2.2])) ∧ xfr [46, 47, 45] H H' := by
  have G : Go S (d + 5) 133 (0, [some (.ref 0)], []) (H, z) (fun _ _ => False) (fun r => ∃ H' : List xE, r = (oL x.1, (H', oZ x.1 z)) ∧ H'[46]? = some (.inl (1, 80, .inr (.inl x.2.1))) ∧ H'[47]? = some (.inl (0, 5, .inl x.2.2.1)) ∧ H'[45]? = some (.inr (8, [.ref 46, .ref 47, .int x.2.2.2])) ∧ xfr [46, 47, 45] H H') := by
    unfold q_X11_root at h
    refine go_step (fun _ => ev_run 1 (F' := (1, [some (.ref 0)], [.ref 0])) rfl) ?_
    refine go_step (fun _ => ev_getf rfl u_0 rfl) ?_
    refine go_step (F1 := (7, [some (.ref 0)], [.int (t_X5_size c1_1)])) (M1 := (H, z)) (fun _ => ev_callV (x := (.invokevirtual 109, 3, 53, 4, 396, .null)) (as := []) (rest := []) rfl rfl u_1 (C_X5_size (S := S) (d := d + 4) (z := z) u_1) rfl) ?_
    refine go_if rfl (fun (b7 : ¬ (t_X5_size c1_1) = (0 : Int32)) => ?_) (fun (b7 : ¬ (¬ (t_X5_size c1_1) = (0 : Int32))) => ?_)
    · have h := (if_pos b7).symm.trans h
      refine go_step (fun _ => ev_run 1 (F' := (22, [some (.ref 0)], [.ref 0])) rfl) ?_
      refine go_step (fun _ => ev_getf rfl u_0 rfl) ?_
      refine go_step (fun _ => ev_run 1 (F' := (26, [some (.ref 0)], [.ref 0, .ref 45])) rfl) ?_
      refine go_step (fun _ => ev_getf rfl u_0 rfl) ?_
      obtain ⟨y1, hy1, h⟩ := okb h
      obtain ⟨H2, hCH2, eH2_46, eH2_45, eH2_47, fH2⟩ := C_X9_grow (S := S) (d := d) (z := z) u_1 u_2 u_46 u_45 u_47 hy1
      refine go_step (F1 := (32, [some (.ref 0)], [])) (M1 := (H2, z)) (fun _ => ev_callV (x := (.invokevirtual 395, 3, 83, 8, 1138, .null)) (as := [.ref 1]) (rest := []) rfl rfl u_45 hCH2 rfl) ?_
      refine go_step (fun _ => ev_run 1 (F' := (33, [some (.ref 0)], [.ref 0])) rfl) ?_
      refine go_step (fun _ => ev_getf rfl ((fH2 0 rfl).trans u_0) rfl) ?_
      refine go_step (F1 := (39, [some (.ref 0)], [.long (t_X9_topSum y1.2.1 y1.1)])) (M1 := (H2, z)) (fun _ => ev_callV (x := (.invokevirtual 398, 3, 85, 8, 1167, .null)) (as := []) (rest := []) rfl rfl eH2_45 (C_X9_topSum (S := S) (d := d + 3) (z := z) eH2_45 eH2_46) rfl) ?_
      cases h
      exact Or.inr ⟨_, ev_ret rfl rfl rfl rfl, H2, rfl, eH2_46, eH2_47, eH2_45, (xfr_t xfr_refl rfl fH2)⟩
    · have h := (if_neg b7).symm.trans h
      cases h
      exact Or.inr ⟨_, ev_throw rfl rfl rfl rfl, H, rfl, u_46, u_47, u_45, xfr_refl⟩
  obtain ⟨_, hE, H', rfl, hrest⟩ := go_end G
  exact ⟨H', hE, hrest⟩
def q_X11_requireLeaf (x1 : Int32) (c1_1 : Int32) : Option ((Nat ⊕ Unit) × Unit) := (if x1 < (0 : Int32) then (some (Sum.inl 2, ())) else (if x1 < (t_X9_leavesOf c1_1) then (some (Sum.inr (), ())) else (some (Sum.inl 2, ()))))
theorem C_X11_requireLeaf {S : Nat × (Nat → Int32)} {d : Nat} {H : List xE} {z : Bool × Nat × Nat} {c1_1 : Int32} {x1 : Int32} (u_0 : H[0]? = some (oO)) (u_1 : H[1]? = some (.inr (4, [.ref 2, .int c1_1]))) {x : ((Nat ⊕ Unit) × Unit)} (h : q_X11_requireLeaf x1 c1_1 = some x) : Cm S (d + 2) 149 [.ref 0, .int x1] (H, z) (oU x.1, (H, oZ x.1 z)) := by
  have G : Go S (d + 2) 149 (0, [some (.ref 0), some (.int x1)], []) (H, z) (fun _ _ => False) (fun r => r = (oU x.1, (H, oZ x.1 z))) := by
    unfold q_X11_requireLeaf at h
    refine go_step (fun _ => ev_run 1 (F' := (1, [some (.ref 0), some (.int x1)], [.int x1])) rfl) ?_
    refine go_if rfl (fun (b1 : x1 < (0 : Int32)) => ?_) (fun (b1 : ¬ (x1 < (0 : Int32))) => ?_)
    · have h := (if_pos b1).symm.trans h
      cases h
      exact Or.inr ⟨_, ev_throw rfl rfl rfl rfl, rfl⟩
    · have h := (if_neg b1).symm.trans h
      refine go_step (fun _ => ev_run 2 (F' := (6, [some (.ref 0), some (.int x1)], [.ref 0, .int x1])) rfl) ?_
      refine go_step (fun _ => ev_getf rfl u_0 rfl) ?_
      refine go_step (F1 := (12, [some (.ref 0), some (.int x1)], [.int (t_X9_leavesOf c1_1), .int x1])) (M1 := (H, z)) (fun _ => ev_call (x := (.invokestatic 466, 3, 82, 8, 1179, .null)) (as := [.ref 1]) (rest := [.int x1]) rfl rfl (C_X9_leavesOf (S := S) (d := d) (z := z) u_1) rfl) ?_
      refine go_icmp rfl (fun (b12 : x1 < (t_X9_leavesOf c1_1)) => ?_) (fun (b12 : ¬ (x1 < (t_X9_leavesOf c1_1))) => ?_)
      · have h := (if_pos b12).symm.trans h
        cases h
        exact Or.inr ⟨_, ev_ret rfl rfl rfl rfl, rfl⟩
      · have h := (if_neg b12).symm.trans h
        cases h
        exact Or.inr ⟨_, ev_throw rfl rfl rfl rfl, rfl⟩
  obtain ⟨_, hE, rfl⟩ := go_end G
  exact hE
def q_X11_climbed (x1 : Int32) (x2 : Int32) (c1_1 : Int32) (a2 : Nat → Int32) (a46 : Nat → Int64) (a47 : Nat → Int32) (c45_2 : Int32) : Option ((Nat ⊕ Int64) × ((Nat → Int64) × (Nat → Int32) × Int32)) := (xbnd (q_X11_requireLeaf x1 c1_1) (fun e2 y1 => (some (Sum.inl e2, (a46, a47, c45_2)))) (fun v3 y4 => ((q_X9_grow c1_1 a2 a46 a47).bind (fun y5 => ((q_X2_sumOfWord x2 (if ((t_X5_size c1_1) - ((4 : Int32) * x1)) < (4 : Int32) then ((t_X5_size c1_1) - ((4 : Int32) * x1)) else (4 : Int32))).bind (fun y7 => ((q_X9_topSumWith x1 y7 y5.2.1 y5.2.2 y5.1).bind (fun y8 => (some (Sum.inr y8, (y5.1, y5.2.2, y5.2.1)))))))))))
theorem C_X11_climbed {S : Nat × (Nat → Int32)} {d : Nat} {H : List xE} {z : Bool × Nat × Nat} {c1_1 : Int32} {a2 : Nat → Int32} {a46 : Nat → Int64} {a47 : Nat → Int32} {c45_2 : Int32} {x1 : Int32} {x2 : Int32} (u_1 : H[1]? = some (.inr (4, [.ref 2, .int c1_1]))) (u_0 : H[0]? = some (oO)) (u_2 : H[2]? = some (.inl (0, 64, .inl a2))) (u_46 : H[46]? = some (.inl (1, 80, .inr (.inl a46)))) (u_47 : H[47]? = some (.inl (0, 5, .inl a47))) (u_45 : H[45]? = some (.inr (8, [.ref 46, .ref 47, .int c45_2]))) {x : ((Nat ⊕ Int64) × ((Nat → Int64) × (Nat → Int32) × Int32))} (h : q_X11_climbed x1 x2 c1_1 a2 a46 a47 c45_2 = some x) : ∃ H' : List xE, Cm S (d + 5) 134 [.ref 0, .int x1, .int x2] (H, z) (oL x.1, (H', oZ x.1 z)) ∧ H'[46]? = some (.inl (1, 80, .inr (.inl x.2.1))) ∧ H'[47]? = some (.inl (0, 5, .inl x.2.2.1)) ∧ H'[45]? = some (.inr (8, [.ref 46, .ref 47, .int x.2.2.2])) ∧ xfr [46, 47, 45] H H' := by
  have G : Go S (d + 5) 134 (0, [some (.ref 0), some (.int x1), some (.int x2), none], []) (H, z) (fun _ _ => False) (fun r => ∃ H' : List xE, r = (oL x.1, (H', oZ x.1 z)) ∧ H'[46]? = some (.inl (1, 80, .inr (.inl x.2.1))) ∧ H'[47]? = some (.inl (0, 5, .inl x.2.2.1)) ∧ H'[45]? = some (.inr (8, [.ref 46, .ref 47, .int x.2.2.2])) ∧ xfr [46, 47, 45] H H') := by
    unfold q_X11_climbed at h
    refine go_step (fun _ => ev_run 2 (F' := (2, [some (.ref 0), some (.int x1), some (.int x2), none], [.int x1, .ref 0])) rfl) ?_
    rcases okx h with ⟨e2, y1, hy1, h⟩ | ⟨v3, y4, hy4, h⟩
    · skip
      cases h
      exact Or.inr ⟨_, ev_callVX (x := (.invokevirtual 401, 3, 149, 10, 1175, .null)) (as := [.int x1]) (rest := []) rfl rfl u_0 rfl (C_X11_requireLeaf (S := S) (d := d + 2) (z := z) (x1 := x1) u_0 u_1 hy1) rfl, H, rfl, u_46, u_47, u_45, xfr_refl⟩
    · skip
      refine go_step (F1 := (5, [some (.ref 0), some (.int x1), some (.int x2), none], [])) (M1 := (H, z)) (fun _ => ev_callV (x := (.invokevirtual 401, 3, 149, 10, 1175, .null)) (as := [.int x1]) (rest := []) rfl rfl u_0 (C_X11_requireLeaf (S := S) (d := d + 2) (z := z) (x1 := x1) u_0 u_1 hy4) rfl) ?_
      refine go_step (fun _ => ev_run 1 (F' := (6, [some (.ref 0), some (.int x1), some (.int x2), none], [.ref 0])) rfl) ?_
      refine go_step (fun _ => ev_getf rfl u_0 rfl) ?_
      refine go_step (fun _ => ev_run 1 (F' := (10, [some (.ref 0), some (.int x1), some (.int x2), none], [.ref 0, .ref 45])) rfl) ?_
      refine go_step (fun _ => ev_getf rfl u_0 rfl) ?_
      obtain ⟨y5, hy5, h⟩ := okb h
      obtain ⟨H6, hCH6, eH6_46, eH6_45, eH6_47, fH6⟩ := C_X9_grow (S := S) (d := d) (z := z) u_1 u_2 u_46 u_45 u_47 hy5
      refine go_step (F1 := (16, [some (.ref 0), some (.int x1), some (.int x2), none], [])) (M1 := (H6, z)) (fun _ => ev_callV (x := (.invokevirtual 395, 3, 83, 8, 1138, .null)) (as := [.ref 1]) (rest := []) rfl rfl u_45 hCH6 rfl) ?_
      refine go_step (fun _ => ev_run 2 (F' := (18, [some (.ref 0), some (.int x1), some (.int x2), none], [.ref 0, .int (4 : Int32)])) rfl) ?_
      refine go_step (fun _ => ev_getf rfl ((fH6 0 rfl).trans u_0) rfl) ?_
      refine go_step (F1 := (24, [some (.ref 0), some (.int x1), some (.int x2), none], [.int (t_X5_size c1_1), .int (4 : Int32)])) (M1 := (H6, z)) (fun _ => ev_callV (x := (.invokevirtual 109, 3, 53, 4, 396, .null)) (as := []) (rest := [.int (4 : Int32)]) rfl rfl ((fH6 1 rfl).trans u_1) (C_X5_size (S := S) (d := d + 4) (z := z) ((fH6 1 rfl).trans u_1)) rfl) ?_
      refine go_step (fun _ => ev_run 7 (F' := (33, [some (.ref 0), some (.int x1), some (.int x2), some (.int (if ((t_X5_size c1_1) - ((4 : Int32) * x1)) < (4 : Int32) then ((t_X5_size c1_1) - ((4 : Int32) * x1)) else (4 : Int32)))], [.ref 0])) rfl) ?_
      refine go_step (fun _ => ev_getf rfl ((fH6 0 rfl).trans u_0) rfl) ?_
      refine go_step (fun _ => ev_run 3 (F' := (39, [some (.ref 0), some (.int x1), some (.int x2), some (.int (if ((t_X5_size c1_1) - ((4 : Int32) * x1)) < (4 : Int32) then ((t_X5_size c1_1) - ((4 : Int32) * x1)) else (4 : Int32)))], [.int (if ((t_X5_size c1_1) - ((4 : Int32) * x1)) < (4 : Int32) then ((t_X5_size c1_1) - ((4 : Int32) * x1)) else (4 : Int32)), .int x2, .int x1, .ref 45])) rfl) ?_
      obtain ⟨y7, hy7, h⟩ := okb h
      refine go_step (F1 := (42, [some (.ref 0), some (.int x1), some (.int x2), some (.int (if ((t_X5_size c1_1) - ((4 : Int32) * x1)) < (4 : Int32) then ((t_X5_size c1_1) - ((4 : Int32) * x1)) else (4 : Int32)))], [.long y7, .int x1, .ref 45])) (M1 := (H6, z)) (fun _ => ev_call (x := (.invokestatic 418, 3, 27, 0, 1182, .null)) (as := [.int x2, .int (if ((t_X5_size c1_1) - ((4 : Int32) * x1)) < (4 : Int32) then ((t_X5_size c1_1) - ((4 : Int32) * x1)) else (4 : Int32))]) (rest := [.int x1, .ref 45]) rfl rfl (C_X2_sumOfWord (S := S) (d := d + 2) (z := z) (x0 := x2) (x1 := (if ((t_X5_size c1_1) - ((4 : Int32) * x1)) < (4 : Int32) then ((t_X5_size c1_1) - ((4 : Int32) * x1)) else (4 : Int32))) hy7) rfl) ?_
      obtain ⟨y8, hy8, h⟩ := okb h
      refine go_step (F1 := (45, [some (.ref 0), some (.int x1), some (.int x2), some (.int (if ((t_X5_size c1_1) - ((4 : Int32) * x1)) < (4 : Int32) then ((t_X5_size c1_1) - ((4 : Int32) * x1)) else (4 : Int32)))], [.long y8])) (M1 := (H6, z)) (fun _ => ev_callV (x := (.invokevirtual 421, 3, 87, 8, 1185, .null)) (as := [.int x1, .long y7]) (rest := []) rfl rfl eH6_45 (C_X9_topSumWith (S := S) (d := d + 1) (z := z) (x1 := x1) (x2 := y7) eH6_45 eH6_47 eH6_46 hy8) rfl) ?_
      cases h
      exact Or.inr ⟨_, ev_ret rfl rfl rfl rfl, H6, rfl, eH6_46, eH6_47, eH6_45, (xfr_t xfr_refl rfl fH6)⟩
  obtain ⟨_, hE, H', rfl, hrest⟩ := go_end G
  exact ⟨H', hE, hrest⟩
def q_X11_joinsEverywhere_L22 (x1 : Int64) (c1_1 : Int32) (c8_0 : Int32) (c8_1 : Int32) (c8_2 : Int32) (c8_3 : Int32) (c8_4 : Int32) (c8_5 : Int32) (a2 : Nat → Int32) : Nat → Int32 → Option (Int32 ⊕ Int32)
  | 0, _ => none
  | n + 1, l3 => (if (t_X5_size c1_1) < l3 then (some (Sum.inl l3)) else ((q_X11_sumByJoining l3 c8_0 c8_1 c8_2 c8_3 c8_4 c8_5 a2 c1_1).bind (fun y1 => (if (lg_cmp y1 x1) = (0 : Int32) then (q_X11_joinsEverywhere_L22 x1 c1_1 c8_0 c8_1 c8_2 c8_3 c8_4 c8_5 a2 n (l3 + (1 : Int32))) else (some (Sum.inr (0 : Int32)))))))
def q_X11_joinsEverywhere (c1_1 : Int32) (c8_0 : Int32) (c8_1 : Int32) (c8_2 : Int32) (c8_3 : Int32) (c8_4 : Int32) (c8_5 : Int32) (a2 : Nat → Int32) : Option Int32 := ((q_X1_sumOf (0 : Int32) (t_X5_size c1_1) c8_0 c8_1 c8_2 c8_3 c8_4 c8_5 a2).bind (fun y1 => (xlp (q_X11_joinsEverywhere_L22 y1 c1_1 c8_0 c8_1 c8_2 c8_3 c8_4 c8_5 a2 10000 (0 : Int32)) (fun y2 => (some (1 : Int32))) (fun y2 => (some y2)))))
theorem L_X11_joinsEverywhere_L22 {S : Nat × (Nat → Int32)} {d : Nat} {z : Bool × Nat × Nat} {x1 : Int64} {c1_1 : Int32} {c8_0 : Int32} {c8_1 : Int32} {c8_2 : Int32} {c8_3 : Int32} {c8_4 : Int32} {c8_5 : Int32} {a2 : Nat → Int32} {H : List xE} (u_0 : H[0]? = some (oO)) (u_1 : H[1]? = some (.inr (4, [.ref 2, .int c1_1]))) (u_8 : H[8]? = some (.inr (1, [.int c8_0, .int c8_1, .int c8_2, .int c8_3, .int c8_4, .int c8_5]))) (u_2 : H[2]? = some (.inl (0, 64, .inl a2))) : ∀ (n : Nat) (l3 : Int32) x, q_X11_joinsEverywhere_L22 x1 c1_1 c8_0 c8_1 c8_2 c8_3 c8_4 c8_5 a2 n l3 = some x → Go S (d + 5) 136 (22, [some (.ref 0), some (.long x1), none, some (.int l3)], []) (H, z) (fun F' M' => ∃ (m : Int32), x = Sum.inl m ∧ F' = (51, [none, none, none, none], []) ∧ M' = (H, z)) (fun r => ∃ (c : Int32), x = Sum.inr c ∧ r = (.inr (some (.int c)), (H, z))) := by
  intro n
  induction n with
  | zero =>
    intro l3 x h
    unfold q_X11_joinsEverywhere_L22 at h
    cases h
  | succ n ih =>
    intro l3 x h
    unfold q_X11_joinsEverywhere_L22 at h
    refine go_step (fun _ => ev_run 2 (F' := (24, [some (.ref 0), some (.long x1), none, some (.int l3)], [.ref 0, .int l3])) rfl) ?_
    refine go_step (fun _ => ev_getf rfl u_0 rfl) ?_
    refine go_step (F1 := (30, [some (.ref 0), some (.long x1), none, some (.int l3)], [.int (t_X5_size c1_1), .int l3])) (M1 := (H, z)) (fun _ => ev_callV (x := (.invokevirtual 109, 3, 53, 4, 396, .null)) (as := []) (rest := [.int l3]) rfl rfl u_1 (C_X5_size (S := S) (d := d + 4) (z := z) u_1) rfl) ?_
    refine go_icmp rfl (fun (b30 : (t_X5_size c1_1) < l3) => ?_) (fun (b30 : ¬ ((t_X5_size c1_1) < l3)) => ?_)
    · have h := (if_pos b30).symm.trans h
      refine go_step (fun _ => ev_forget (L' := [none, none, none, none]) (show xleP _ [some (.ref 0), some (.long x1), none, some (.int l3)] from trivial) rfl) ?_
      cases h
      exact Or.inl ⟨_, _, fun r hr => hr, _, rfl, rfl, rfl⟩
    · have h := (if_neg b30).symm.trans h
      refine go_step (fun _ => ev_run 2 (F' := (35, [some (.ref 0), some (.long x1), none, some (.int l3)], [.int l3, .ref 0])) rfl) ?_
      obtain ⟨y1, hy1, h⟩ := okb h
      refine go_step (F1 := (38, [some (.ref 0), some (.long x1), none, some (.int l3)], [.long y1])) (M1 := (H, z)) (fun _ => ev_callV (x := (.invokevirtual 198, 3, 139, 10, 540, .null)) (as := [.int l3]) (rest := []) rfl rfl u_0 (C_X11_sumByJoining (S := S) (d := d) (z := z) (x1 := l3) u_0 u_8 u_2 u_1 hy1) rfl) ?_
      refine go_step (fun _ => ev_run 2 (F' := (40, [some (.ref 0), some (.long x1), none, some (.int l3)], [.int (lg_cmp y1 x1)])) rfl) ?_
      refine go_if rfl (fun (b40 : (lg_cmp y1 x1) = (0 : Int32)) => ?_) (fun (b40 : ¬ ((lg_cmp y1 x1) = (0 : Int32))) => ?_)
      · have h := (if_pos b40).symm.trans h
        refine go_step (fun _ => ev_run 2 (F' := (22, [some (.ref 0), some (.long x1), none, some (.int (l3 + (1 : Int32)))], [])) rfl) ?_
        exact ih (l3 + (1 : Int32)) _ h
      · have h := (if_neg b40).symm.trans h
        refine go_step (fun _ => ev_run 1 (F' := (44, [some (.ref 0), some (.long x1), none, some (.int l3)], [.int (0 : Int32)])) rfl) ?_
        cases h
        exact Or.inr ⟨_, ev_ret rfl rfl rfl rfl, _, rfl, rfl⟩
theorem C_X11_joinsEverywhere {S : Nat × (Nat → Int32)} {d : Nat} {H : List xE} {z : Bool × Nat × Nat} {c1_1 : Int32} {c8_0 : Int32} {c8_1 : Int32} {c8_2 : Int32} {c8_3 : Int32} {c8_4 : Int32} {c8_5 : Int32} {a2 : Nat → Int32} (u_0 : H[0]? = some (oO)) (u_1 : H[1]? = some (.inr (4, [.ref 2, .int c1_1]))) (u_8 : H[8]? = some (.inr (1, [.int c8_0, .int c8_1, .int c8_2, .int c8_3, .int c8_4, .int c8_5]))) (u_2 : H[2]? = some (.inl (0, 64, .inl a2))) {x : Int32} (h : q_X11_joinsEverywhere c1_1 c8_0 c8_1 c8_2 c8_3 c8_4 c8_5 a2 = some x) : Cm S (d + 5) 136 [.ref 0] (H, z) (.inr (some (.int x)), (H, z)) := by
  have G : Go S (d + 5) 136 (0, [some (.ref 0), none, none, none], []) (H, z) (fun _ _ => False) (fun r => r = (.inr (some (.int x)), (H, z))) := by
    unfold q_X11_joinsEverywhere at h
    refine go_step (fun _ => ev_run 1 (F' := (1, [some (.ref 0), none, none, none], [.ref 0])) rfl) ?_
    refine go_step (fun _ => ev_getf rfl u_0 rfl) ?_
    refine go_step (fun _ => ev_run 1 (F' := (5, [some (.ref 0), none, none, none], [.ref 0, .ref 8])) rfl) ?_
    refine go_step (fun _ => ev_getf rfl u_0 rfl) ?_
    refine go_step (fun _ => ev_run 2 (F' := (10, [some (.ref 0), none, none, none], [.ref 0, .int (0 : Int32), .ref 1, .ref 8])) rfl) ?_
    refine go_step (fun _ => ev_getf rfl u_0 rfl) ?_
    refine go_step (F1 := (16, [some (.ref 0), none, none, none], [.int (t_X5_size c1_1), .int (0 : Int32), .ref 1, .ref 8])) (M1 := (H, z)) (fun _ => ev_callV (x := (.invokevirtual 109, 3, 53, 4, 396, .null)) (as := []) (rest := [.int (0 : Int32), .ref 1, .ref 8]) rfl rfl u_1 (C_X5_size (S := S) (d := d + 4) (z := z) u_1) rfl) ?_
    obtain ⟨y1, hy1, h⟩ := okb h
    refine go_step (F1 := (19, [some (.ref 0), none, none, none], [.long y1])) (M1 := (H, z)) (fun _ => ev_callV (x := (.invokevirtual 197, 3, 15, 1, 511, .null)) (as := [.ref 1, .int (0 : Int32), .int (t_X5_size c1_1)]) (rest := []) rfl rfl u_8 (C_X1_sumOf (S := S) (d := d + 2) (z := z) (x2 := (0 : Int32)) (x3 := (t_X5_size c1_1)) u_8 u_1 u_2 hy1) rfl) ?_
    refine go_step (fun _ => ev_run 3 (F' := (22, [some (.ref 0), some (.long y1), none, some (.int (0 : Int32))], [])) rfl) ?_
    rcases okl h with ⟨y2, hy2, h⟩ | ⟨y2, hy2, h⟩
    · rcases L_X11_joinsEverywhere_L22 (S := S) (d := d) (z := z) (x1 := y1) u_0 u_1 u_8 u_2 10000 (0 : Int32) _ hy2 with ⟨_, _, hr3, _, hx4, rfl, rfl⟩ | ⟨_, _, _, hx4, _⟩
      · cases hx4
        refine go_step hr3 ?_
        refine go_step (fun _ => ev_run 1 (F' := (52, [none, none, none, none], [.int (1 : Int32)])) rfl) ?_
        cases h
        exact Or.inr ⟨_, ev_ret rfl rfl rfl rfl, rfl⟩
      · cases hx4
    · rcases L_X11_joinsEverywhere_L22 (S := S) (d := d) (z := z) (x1 := y1) u_0 u_1 u_8 u_2 10000 (0 : Int32) _ hy2 with ⟨_, _, _, _, hx4, _⟩ | ⟨_, hE6, _, hx4, rfl⟩
      · cases hx4
      · cases hx4
        cases h
        exact Or.inr ⟨_, hE6, rfl⟩
  obtain ⟨_, hE, rfl⟩ := go_end G
  exact hE
def q_X11_forgesItself_L26 (x3 : Int32) (a2 : Nat → Int32) : Nat → Int32 → Option (Int32 ⊕ Int32)
  | 0, _ => none
  | n + 1, l4 => (if (4 : Int32) ≤ l4 then (some (Sum.inl l4)) else (if (t_X11_byteOfWord x3 l4) = (t_X5_at l4 64 a2) then (q_X11_forgesItself_L26 x3 a2 n (l4 + (1 : Int32))) else (some (Sum.inr (0 : Int32)))))
def q_X11_forgesItself (x1 : Int64) (c1_1 : Int32) (a2 : Nat → Int32) : Option Int32 := (if (4 : Int32) ≤ (t_X5_size c1_1) then ((q_X2_forgedWord (0 : Int32) x1 a2 c1_1).bind (fun y1 => (xlp (q_X11_forgesItself_L26 y1 a2 10000 (0 : Int32)) (fun y2 => (some (1 : Int32))) (fun y2 => (some y2))))) else (some (1 : Int32)))
theorem L_X11_forgesItself_L26 {S : Nat × (Nat → Int32)} {d : Nat} {z : Bool × Nat × Nat} {c1_1 : Int32} {x3 : Int32} {a2 : Nat → Int32} {H : List xE} (u_0 : H[0]? = some (oO)) (u_1 : H[1]? = some (.inr (4, [.ref 2, .int c1_1]))) (u_2 : H[2]? = some (.inl (0, 64, .inl a2))) : ∀ (n : Nat) (l4 : Int32) x, q_X11_forgesItself_L26 x3 a2 n l4 = some x → Go S (d + 3) 137 (26, [some (.ref 0), none, none, some (.int x3), some (.int l4)], []) (H, z) (fun F' M' => ∃ (m : Int32), x = Sum.inl m ∧ F' = (58, [none, none, none, none, none], []) ∧ M' = (H, z)) (fun r => ∃ (c : Int32), x = Sum.inr c ∧ r = (.inr (some (.int c)), (H, z))) := by
  intro n
  induction n with
  | zero =>
    intro l4 x h
    unfold q_X11_forgesItself_L26 at h
    cases h
  | succ n ih =>
    intro l4 x h
    unfold q_X11_forgesItself_L26 at h
    refine go_step (fun _ => ev_run 2 (F' := (29, [some (.ref 0), none, none, some (.int x3), some (.int l4)], [.int (4 : Int32), .int l4])) rfl) ?_
    refine go_icmp rfl (fun (b29 : (4 : Int32) ≤ l4) => ?_) (fun (b29 : ¬ ((4 : Int32) ≤ l4)) => ?_)
    · have h := (if_pos b29).symm.trans h
      refine go_step (fun _ => ev_forget (L' := [none, none, none, none, none]) (show xleP _ [some (.ref 0), none, none, some (.int x3), some (.int l4)] from trivial) rfl) ?_
      cases h
      exact Or.inl ⟨_, _, fun r hr => hr, _, rfl, rfl, rfl⟩
    · have h := (if_neg b29).symm.trans h
      refine go_step (fun _ => ev_run 2 (F' := (35, [some (.ref 0), none, none, some (.int x3), some (.int l4)], [.int l4, .int x3])) rfl) ?_
      refine go_step (F1 := (38, [some (.ref 0), none, none, some (.int x3), some (.int l4)], [.int (t_X11_byteOfWord x3 l4)])) (M1 := (H, z)) (fun _ => ev_call (x := (.invokestatic 122, 3, 156, 10, 433, .null)) (as := [.int x3, .int l4]) (rest := []) rfl rfl (C_X11_byteOfWord (S := S) (d := d + 2) (z := z) (x0 := x3) (x1 := l4)) rfl) ?_
      refine go_step (fun _ => ev_run 1 (F' := (39, [some (.ref 0), none, none, some (.int x3), some (.int l4)], [.ref 0, .int (t_X11_byteOfWord x3 l4)])) rfl) ?_
      refine go_step (fun _ => ev_getf rfl u_0 rfl) ?_
      refine go_step (fun _ => ev_run 1 (F' := (44, [some (.ref 0), none, none, some (.int x3), some (.int l4)], [.int l4, .ref 1, .int (t_X11_byteOfWord x3 l4)])) rfl) ?_
      refine go_step (F1 := (47, [some (.ref 0), none, none, some (.int x3), some (.int l4)], [.int (t_X5_at l4 64 a2), .int (t_X11_byteOfWord x3 l4)])) (M1 := (H, z)) (fun _ => ev_callV (x := (.invokevirtual 132, 3, 55, 4, 572, .null)) (as := [.int l4]) (rest := [.int (t_X11_byteOfWord x3 l4)]) rfl rfl u_1 (C_X5_at (S := S) (d := d + 2) (z := z) (x1 := l4) u_1 u_2 (by decide)) rfl) ?_
      refine go_icmp rfl (fun (b47 : (t_X11_byteOfWord x3 l4) = (t_X5_at l4 64 a2)) => ?_) (fun (b47 : ¬ ((t_X11_byteOfWord x3 l4) = (t_X5_at l4 64 a2))) => ?_)
      · have h := (if_pos b47).symm.trans h
        refine go_step (fun _ => ev_run 2 (F' := (26, [some (.ref 0), none, none, some (.int x3), some (.int (l4 + (1 : Int32)))], [])) rfl) ?_
        exact ih (l4 + (1 : Int32)) _ h
      · have h := (if_neg b47).symm.trans h
        refine go_step (fun _ => ev_run 1 (F' := (51, [some (.ref 0), none, none, some (.int x3), some (.int l4)], [.int (0 : Int32)])) rfl) ?_
        cases h
        exact Or.inr ⟨_, ev_ret rfl rfl rfl rfl, _, rfl, rfl⟩
theorem C_X11_forgesItself {S : Nat × (Nat → Int32)} {d : Nat} {H : List xE} {z : Bool × Nat × Nat} {c1_1 : Int32} {a2 : Nat → Int32} {x1 : Int64} (u_0 : H[0]? = some (oO)) (u_1 : H[1]? = some (.inr (4, [.ref 2, .int c1_1]))) (u_2 : H[2]? = some (.inl (0, 64, .inl a2))) {x : Int32} (h : q_X11_forgesItself x1 c1_1 a2 = some x) : Cm S (d + 3) 137 [.ref 0, .long x1] (H, z) (.inr (some (.int x)), (H, z)) := by
  have G : Go S (d + 3) 137 (0, [some (.ref 0), some (.long x1), none, none, none], []) (H, z) (fun _ _ => False) (fun r => r = (.inr (some (.int x)), (H, z))) := by
    unfold q_X11_forgesItself at h
    refine go_step (fun _ => ev_run 1 (F' := (1, [some (.ref 0), some (.long x1), none, none, none], [.ref 0])) rfl) ?_
    refine go_step (fun _ => ev_getf rfl u_0 rfl) ?_
    refine go_step (F1 := (7, [some (.ref 0), some (.long x1), none, none, none], [.int (t_X5_size c1_1)])) (M1 := (H, z)) (fun _ => ev_callV (x := (.invokevirtual 109, 3, 53, 4, 396, .null)) (as := []) (rest := []) rfl rfl u_1 (C_X5_size (S := S) (d := d + 2) (z := z) u_1) rfl) ?_
    refine go_step (fun _ => ev_run 1 (F' := (8, [some (.ref 0), some (.long x1), none, none, none], [.int (4 : Int32), .int (t_X5_size c1_1)])) rfl) ?_
    refine go_icmp rfl (fun (b8 : (4 : Int32) ≤ (t_X5_size c1_1)) => ?_) (fun (b8 : ¬ ((4 : Int32) ≤ (t_X5_size c1_1))) => ?_)
    · have h := (if_pos b8).symm.trans h
      refine go_step (fun _ => ev_run 1 (F' := (14, [some (.ref 0), some (.long x1), none, none, none], [.ref 0])) rfl) ?_
      refine go_step (fun _ => ev_getf rfl u_0 rfl) ?_
      refine go_step (fun _ => ev_run 2 (F' := (19, [some (.ref 0), some (.long x1), none, none, none], [.long x1, .int (0 : Int32), .ref 1])) rfl) ?_
      obtain ⟨y1, hy1, h⟩ := okb h
      refine go_step (F1 := (22, [some (.ref 0), some (.long x1), none, none, none], [.int y1])) (M1 := (H, z)) (fun _ => ev_call (x := (.invokestatic 222, 3, 29, 0, 564, .null)) (as := [.ref 1, .int (0 : Int32), .long x1]) (rest := []) rfl rfl (C_X2_forgedWord (S := S) (d := d) (z := z) (x1 := (0 : Int32)) (x2 := x1) u_2 u_1 hy1) rfl) ?_
      refine go_step (fun _ => ev_run 3 (F' := (26, [some (.ref 0), some (.long x1), none, some (.int y1), some (.int (0 : Int32))], [])) rfl) ?_
      refine go_step (fun _ => ev_forget (L' := [some (.ref 0), none, none, some (.int y1), some (.int (0 : Int32))]) (show xleP _ [some (.ref 0), some (.long x1), none, some (.int y1), some (.int (0 : Int32))] from ⟨rfl, ⟨rfl, ⟨rfl, trivial⟩⟩⟩) rfl) ?_
      rcases okl h with ⟨y2, hy2, h⟩ | ⟨y2, hy2, h⟩
      · rcases L_X11_forgesItself_L26 (S := S) (d := d) (z := z) (x3 := y1) u_0 u_1 u_2 10000 (0 : Int32) _ hy2 with ⟨_, _, hr3, _, hx4, rfl, rfl⟩ | ⟨_, _, _, hx4, _⟩
        · cases hx4
          refine go_step hr3 ?_
          refine go_step (fun _ => ev_run 1 (F' := (59, [none, none, none, none, none], [.int (1 : Int32)])) rfl) ?_
          cases h
          exact Or.inr ⟨_, ev_ret rfl rfl rfl rfl, rfl⟩
        · cases hx4
      · rcases L_X11_forgesItself_L26 (S := S) (d := d) (z := z) (x3 := y1) u_0 u_1 u_2 10000 (0 : Int32) _ hy2 with ⟨_, _, _, _, hx4, _⟩ | ⟨_, hE6, _, hx4, rfl⟩
        · cases hx4
        · cases hx4
          cases h
          exact Or.inr ⟨_, hE6, rfl⟩
    · have h := (if_neg b8).symm.trans h
      refine go_step (fun _ => ev_run 1 (F' := (12, [some (.ref 0), some (.long x1), none, none, none], [.int (1 : Int32)])) rfl) ?_
      cases h
      exact Or.inr ⟨_, ev_ret rfl rfl rfl rfl, rfl⟩
  obtain ⟨_, hE, rfl⟩ := go_end G
  exact hE
def q_X11_schemesSee_L21 (x2 : Int32) (c17_1 : Int32) (a18 : Nat → Int32) (a22 : Nat → Int32) : Nat → Int32 → Int32 → (Nat → Int32) → Option ((Int32 × Int32 × (Nat → Int32)) ⊕ (Int32 × Int32 × (Nat → Int32)))
  | 0, _, _, _ => none
  | n + 1, l3, c20_1, a21 => (if x2 ≤ l3 then (some (Sum.inl (l3, c20_1, a21))) else (if xin l3 4 = true then ((q_X6_countUnseen ((fun k => ([108, 101, 110, 116] : List Int32).getD k 0) l3.toNatClampNeg) (115 : Int32) c17_1 a18 a22 c20_1 a21).bind (fun y1 => (if y1.1 = (0 : Int32) then (if ((fun k => ([108, 101, 110, 116] : List Int32).getD k 0) l3.toNatClampNeg) = (108 : Int32) then (q_X11_schemesSee_L21 x2 c17_1 a18 a22 n (l3 + (1 : Int32)) y1.2.1 y1.2.2) else ((q_X6_countUnseen ((fun k => ([108, 101, 110, 116] : List Int32).getD k 0) l3.toNatClampNeg) (110 : Int32) c17_1 a18 a22 y1.2.1 y1.2.2).bind (fun y3 => (if y3.1 = (0 : Int32) then (q_X11_schemesSee_L21 x2 c17_1 a18 a22 n (l3 + (1 : Int32)) y3.2.1 y3.2.2) else (some (Sum.inr ((0 : Int32), y3.2.1, y3.2.2))))))) else (some (Sum.inr ((0 : Int32), y1.2.1, y1.2.2)))))) else none))
def q_X11_schemesSee (c17_1 : Int32) (a18 : Nat → Int32) (a22 : Nat → Int32) (c20_1 : Int32) (a21 : Nat → Int32) : Option (Int32 × Int32 × (Nat → Int32)) := (if ¬ (t_X5_size c17_1) = (0 : Int32) then (xlp (q_X11_schemesSee_L21 (nI 4) c17_1 a18 a22 10000 (0 : Int32) c20_1 a21) (fun y1 => (some ((1 : Int32), y1.2.1, y1.2.2))) (fun y1 => (some (y1.1, y1.2.1, y1.2.2)))) else (some ((1 : Int32), c20_1, a21)))
theorem L_X11_schemesSee_L21 {S : Nat × (Nat → Int32)} {d : Nat} {z : Bool × Nat × Nat} {x2 : Int32} {c17_1 : Int32} {a18 : Nat → Int32} {a22 : Nat → Int32} {H0 : List xE} (u_0 : H0[0]? = some (oO)) (u_17 : H0[17]? = some (.inr (4, [.ref 18, .int c17_1]))) (u_1000000 : H0[1000000]? = none) (u_18 : H0[18]? = some (.inl (0, 18, .inl a18))) (u_22 : H0[22]? = some (.inl (0, 190, .inl a22))) (u_19 : H0[19]? = some (.inr (5, [.ref 20, .ref 22]))) : ∀ (n : Nat) (l3 : Int32) (c20_1 : Int32) (a21 : Nat → Int32) (H : List xE), xfr [20, 21] H0 H → H[20]? = some (.inr (4, [.ref 21, .int c20_1])) → H[21]? = some (.inl (0, 18, .inl a21)) → ∀ x, q_X11_schemesSee_L21 x2 c17_1 a18 a22 n l3 c20_1 a21 = some x → Go S (d + 5) 138 (21, [some (.ref 0), some (.ref 1000000), some (.int x2), some (.int l3), none], []) (H, z) (fun F' M' => ∃ (m : (Int32 × Int32 × (Nat → Int32))) (H' : List xE), x = Sum.inl m ∧ F' = (84, [none, none, none, none, none], []) ∧ M' = (H', z) ∧ H'[20]? = some (.inr (4, [.ref 21, .int m.2.1])) ∧ H'[21]? = some (.inl (0, 18, .inl m.2.2)) ∧ xfr [20, 21] H0 H') (fun r => ∃ (c : (Int32 × Int32 × (Nat → Int32))) (H' : List xE), x = Sum.inr c ∧ r = (.inr (some (.int c.1)), (H', z)) ∧ H'[20]? = some (.inr (4, [.ref 21, .int c.2.1])) ∧ H'[21]? = some (.inl (0, 18, .inl c.2.2)) ∧ xfr [20, 21] H0 H') := by
  intro n
  induction n with
  | zero =>
    intro l3 c20_1 a21 H fr e_20 e_21 x h
    unfold q_X11_schemesSee_L21 at h
    cases h
  | succ n ih =>
    intro l3 c20_1 a21 H fr e_20 e_21 x h
    unfold q_X11_schemesSee_L21 at h
    refine go_step (fun _ => ev_run 2 (F' := (23, [some (.ref 0), some (.ref 1000000), some (.int x2), some (.int l3), none], [.int x2, .int l3])) rfl) ?_
    refine go_icmp rfl (fun (b23 : x2 ≤ l3) => ?_) (fun (b23 : ¬ (x2 ≤ l3)) => ?_)
    · have h := (if_pos b23).symm.trans h
      refine go_step (fun _ => ev_forget (L' := [none, none, none, none, none]) (show xleP _ [some (.ref 0), some (.ref 1000000), some (.int x2), some (.int l3), none] from trivial) rfl) ?_
      cases h
      exact Or.inl ⟨_, _, fun r hr => hr, _, H, rfl, rfl, rfl, e_20, e_21, fr⟩
    · have h := (if_neg b23).symm.trans h
      refine go_step (fun _ => ev_run 2 (F' := (28, [some (.ref 0), some (.ref 1000000), some (.int x2), some (.int l3), none], [.int l3, .ref 1000000])) rfl) ?_
      obtain ⟨g28, h⟩ := okg h
      refine go_step (fun _ => ev_rcald (f := (fun k => ([108, 101, 110, 116] : List Int32).getD k 0)) rfl ((fr 1000000 rfl).trans u_1000000) rfl g28) ?_
      refine go_step (fun _ => ev_run 2 (F' := (32, [some (.ref 0), some (.ref 1000000), some (.int x2), some (.int l3), some (.int ((fun k => ([108, 101, 110, 116] : List Int32).getD k 0) l3.toNatClampNeg))], [.ref 0])) rfl) ?_
      refine go_step (fun _ => ev_getf rfl ((fr 0 rfl).trans u_0) rfl) ?_
      refine go_step (fun _ => ev_run 3 (F' := (40, [some (.ref 0), some (.ref 1000000), some (.int x2), some (.int l3), some (.int ((fun k => ([108, 101, 110, 116] : List Int32).getD k 0) l3.toNatClampNeg))], [.ref 0, .int (115 : Int32), .int ((fun k => ([108, 101, 110, 116] : List Int32).getD k 0) l3.toNatClampNeg), .ref 19])) rfl) ?_
      refine go_step (fun _ => ev_getf rfl ((fr 0 rfl).trans u_0) rfl) ?_
      obtain ⟨y1, hy1, h⟩ := okb h
      obtain ⟨H2, hCH2, eH2_20, eH2_21, fH2⟩ := C_X6_countUnseen (S := S) (d := d) (z := z) (x1 := ((fun k => ([108, 101, 110, 116] : List Int32).getD k 0) l3.toNatClampNeg)) (x2 := (115 : Int32)) ((fr 17 rfl).trans u_17) ((fr 18 rfl).trans u_18) ((fr 22 rfl).trans u_22) e_20 e_21 ((fr 19 rfl).trans u_19) hy1
      refine go_step (F1 := (46, [some (.ref 0), some (.ref 1000000), some (.int x2), some (.int l3), some (.int ((fun k => ([108, 101, 110, 116] : List Int32).getD k 0) l3.toNatClampNeg))], [.int y1.1])) (M1 := (H2, z)) (fun _ => ev_callV (x := (.invokevirtual 327, 3, 64, 5, 579, .null)) (as := [.int ((fun k => ([108, 101, 110, 116] : List Int32).getD k 0) l3.toNatClampNeg), .int (115 : Int32), .ref 17]) (rest := []) rfl rfl ((fr 19 rfl).trans u_19) hCH2 rfl) ?_
      refine go_if rfl (fun (b46 : y1.1 = (0 : Int32)) => ?_) (fun (b46 : ¬ (y1.1 = (0 : Int32))) => ?_)
      · have h := (if_pos b46).symm.trans h
        refine go_step (fun _ => ev_run 2 (F' := (55, [some (.ref 0), some (.ref 1000000), some (.int x2), some (.int l3), some (.int ((fun k => ([108, 101, 110, 116] : List Int32).getD k 0) l3.toNatClampNeg))], [.int (108 : Int32), .int ((fun k => ([108, 101, 110, 116] : List Int32).getD k 0) l3.toNatClampNeg)])) rfl) ?_
        refine go_icmp rfl (fun (b55 : ((fun k => ([108, 101, 110, 116] : List Int32).getD k 0) l3.toNatClampNeg) = (108 : Int32)) => ?_) (fun (b55 : ¬ (((fun k => ([108, 101, 110, 116] : List Int32).getD k 0) l3.toNatClampNeg) = (108 : Int32))) => ?_)
        · have h := (if_pos b55).symm.trans h
          refine go_step (fun _ => ev_run 2 (F' := (21, [some (.ref 0), some (.ref 1000000), some (.int x2), some (.int (l3 + (1 : Int32))), some (.int ((fun k => ([108, 101, 110, 116] : List Int32).getD k 0) l3.toNatClampNeg))], [])) rfl) ?_
          refine go_step (fun _ => ev_forget (L' := [some (.ref 0), some (.ref 1000000), some (.int x2), some (.int (l3 + (1 : Int32))), none]) (show xleP _ [some (.ref 0), some (.ref 1000000), some (.int x2), some (.int (l3 + (1 : Int32))), some (.int ((fun k => ([108, 101, 110, 116] : List Int32).getD k 0) l3.toNatClampNeg))] from ⟨rfl, ⟨rfl, ⟨rfl, ⟨rfl, trivial⟩⟩⟩⟩) rfl) ?_
          exact ih (l3 + (1 : Int32)) y1.2.1 y1.2.2 H2 (xfr_t fr rfl fH2) eH2_20 eH2_21 _ h
        · have h := (if_neg b55).symm.trans h
          refine go_step (fun _ => ev_run 1 (F' := (59, [some (.ref 0), some (.ref 1000000), some (.int x2), some (.int l3), some (.int ((fun k => ([108, 101, 110, 116] : List Int32).getD k 0) l3.toNatClampNeg))], [.ref 0])) rfl) ?_
          refine go_step (fun _ => ev_getf rfl ((fH2 0 rfl).trans ((fr 0 rfl).trans u_0)) rfl) ?_
          refine go_step (fun _ => ev_run 3 (F' := (67, [some (.ref 0), some (.ref 1000000), some (.int x2), some (.int l3), some (.int ((fun k => ([108, 101, 110, 116] : List Int32).getD k 0) l3.toNatClampNeg))], [.ref 0, .int (110 : Int32), .int ((fun k => ([108, 101, 110, 116] : List Int32).getD k 0) l3.toNatClampNeg), .ref 19])) rfl) ?_
          refine go_step (fun _ => ev_getf rfl ((fH2 0 rfl).trans ((fr 0 rfl).trans u_0)) rfl) ?_
          obtain ⟨y3, hy3, h⟩ := okb h
          obtain ⟨H4, hCH4, eH4_20, eH4_21, fH4⟩ := C_X6_countUnseen (S := S) (d := d) (z := z) (x1 := ((fun k => ([108, 101, 110, 116] : List Int32).getD k 0) l3.toNatClampNeg)) (x2 := (110 : Int32)) ((fH2 17 rfl).trans ((fr 17 rfl).trans u_17)) ((fH2 18 rfl).trans ((fr 18 rfl).trans u_18)) ((fH2 22 rfl).trans ((fr 22 rfl).trans u_22)) eH2_20 eH2_21 ((fH2 19 rfl).trans ((fr 19 rfl).trans u_19)) hy3
          refine go_step (F1 := (73, [some (.ref 0), some (.ref 1000000), some (.int x2), some (.int l3), some (.int ((fun k => ([108, 101, 110, 116] : List Int32).getD k 0) l3.toNatClampNeg))], [.int y3.1])) (M1 := (H4, z)) (fun _ => ev_callV (x := (.invokevirtual 327, 3, 64, 5, 579, .null)) (as := [.int ((fun k => ([108, 101, 110, 116] : List Int32).getD k 0) l3.toNatClampNeg), .int (110 : Int32), .ref 17]) (rest := []) rfl rfl ((fH2 19 rfl).trans ((fr 19 rfl).trans u_19)) hCH4 rfl) ?_
          refine go_if rfl (fun (b73 : y3.1 = (0 : Int32)) => ?_) (fun (b73 : ¬ (y3.1 = (0 : Int32))) => ?_)
          · have h := (if_pos b73).symm.trans h
            refine go_step (fun _ => ev_run 2 (F' := (21, [some (.ref 0), some (.ref 1000000), some (.int x2), some (.int (l3 + (1 : Int32))), some (.int ((fun k => ([108, 101, 110, 116] : List Int32).getD k 0) l3.toNatClampNeg))], [])) rfl) ?_
            refine go_step (fun _ => ev_forget (L' := [some (.ref 0), some (.ref 1000000), some (.int x2), some (.int (l3 + (1 : Int32))), none]) (show xleP _ [some (.ref 0), some (.ref 1000000), some (.int x2), some (.int (l3 + (1 : Int32))), some (.int ((fun k => ([108, 101, 110, 116] : List Int32).getD k 0) l3.toNatClampNeg))] from ⟨rfl, ⟨rfl, ⟨rfl, ⟨rfl, trivial⟩⟩⟩⟩) rfl) ?_
            exact ih (l3 + (1 : Int32)) y3.2.1 y3.2.2 H4 (xfr_t (xfr_t fr rfl fH2) rfl fH4) eH4_20 eH4_21 _ h
          · have h := (if_neg b73).symm.trans h
            refine go_step (fun _ => ev_run 1 (F' := (77, [some (.ref 0), some (.ref 1000000), some (.int x2), some (.int l3), some (.int ((fun k => ([108, 101, 110, 116] : List Int32).getD k 0) l3.toNatClampNeg))], [.int (0 : Int32)])) rfl) ?_
            cases h
            exact Or.inr ⟨_, ev_ret rfl rfl rfl rfl, _, H4, rfl, rfl, eH4_20, eH4_21, (xfr_t (xfr_t fr rfl fH2) rfl fH4)⟩
      · have h := (if_neg b46).symm.trans h
        refine go_step (fun _ => ev_run 1 (F' := (50, [some (.ref 0), some (.ref 1000000), some (.int x2), some (.int l3), some (.int ((fun k => ([108, 101, 110, 116] : List Int32).getD k 0) l3.toNatClampNeg))], [.int (0 : Int32)])) rfl) ?_
        cases h
        exact Or.inr ⟨_, ev_ret rfl rfl rfl rfl, _, H2, rfl, rfl, eH2_20, eH2_21, (xfr_t fr rfl fH2)⟩
theorem C_X11_schemesSee {S : Nat × (Nat → Int32)} {d : Nat} {H : List xE} {z : Bool × Nat × Nat} {c17_1 : Int32} {a18 : Nat → Int32} {a22 : Nat → Int32} {c20_1 : Int32} {a21 : Nat → Int32} (u_0 : H[0]? = some (oO)) (u_17 : H[17]? = some (.inr (4, [.ref 18, .int c17_1]))) (u_1000000 : H[1000000]? = none) (u_18 : H[18]? = some (.inl (0, 18, .inl a18))) (u_22 : H[22]? = some (.inl (0, 190, .inl a22))) (u_20 : H[20]? = some (.inr (4, [.ref 21, .int c20_1]))) (u_21 : H[21]? = some (.inl (0, 18, .inl a21))) (u_19 : H[19]? = some (.inr (5, [.ref 20, .ref 22]))) {x : (Int32 × Int32 × (Nat → Int32))} (h : q_X11_schemesSee c17_1 a18 a22 c20_1 a21 = some x) : ∃ H' : List xE, Cm S (d + 5) 138 [.ref 0] (H, z) (.inr (some (.int x.1)), (H', z)) ∧ H'[20]? = some (.inr (4, [.ref 21, .int x.2.1])) ∧ H'[21]? = some (.inl (0, 18, .inl x.2.2)) ∧ xfr [20, 21] H H' := by
  have G : Go S (d + 5) 138 (0, [some (.ref 0), none, none, none, none], []) (H, z) (fun _ _ => False) (fun r => ∃ H' : List xE, r = (.inr (some (.int x.1)), (H', z)) ∧ H'[20]? = some (.inr (4, [.ref 21, .int x.2.1])) ∧ H'[21]? = some (.inl (0, 18, .inl x.2.2)) ∧ xfr [20, 21] H H') := by
    unfold q_X11_schemesSee at h
    refine go_step (fun _ => ev_run 1 (F' := (1, [some (.ref 0), none, none, none, none], [.ref 0])) rfl) ?_
    refine go_step (fun _ => ev_getf rfl u_0 rfl) ?_
    refine go_step (F1 := (7, [some (.ref 0), none, none, none, none], [.int (t_X5_size c17_1)])) (M1 := (H, z)) (fun _ => ev_callV (x := (.invokevirtual 109, 3, 53, 4, 396, .null)) (as := []) (rest := []) rfl rfl u_17 (C_X5_size (S := S) (d := d + 4) (z := z) u_17) rfl) ?_
    refine go_if rfl (fun (b7 : ¬ (t_X5_size c17_1) = (0 : Int32)) => ?_) (fun (b7 : ¬ (¬ (t_X5_size c17_1) = (0 : Int32))) => ?_)
    · have h := (if_pos b7).symm.trans h
      refine go_step (fun _ => ev_run 3 (F' := (17, [some (.ref 0), some (.ref 1000000), none, none, none], [.ref 1000000])) rfl) ?_
      refine go_step (fun _ => ev_rlen (t := 3) (m := 4) (f := (fun k => ([108, 101, 110, 116] : List Int32).getD k 0)) rfl u_1000000 rfl) ?_
      refine go_step (fun _ => ev_run 3 (F' := (21, [some (.ref 0), some (.ref 1000000), some (.int (nI 4)), some (.int (0 : Int32)), none], [])) rfl) ?_
      rcases okl h with ⟨y1, hy1, h⟩ | ⟨y1, hy1, h⟩
      · rcases L_X11_schemesSee_L21 (S := S) (d := d) (z := z) (x2 := (nI 4)) u_0 u_17 u_1000000 u_18 u_22 u_19 10000 (0 : Int32) c20_1 a21 H xfr_refl u_20 u_21 _ hy1 with ⟨_, _, hr2, _, H4, hx3, rfl, rfl, eH4_20, eH4_21, fH4⟩ | ⟨_, _, _, _, hx3, _⟩
        · cases hx3
          refine go_step hr2 ?_
          refine go_step (fun _ => ev_run 1 (F' := (85, [none, none, none, none, none], [.int (1 : Int32)])) rfl) ?_
          cases h
          exact Or.inr ⟨_, ev_ret rfl rfl rfl rfl, H4, rfl, eH4_20, eH4_21, (xfr_t xfr_refl rfl fH4)⟩
        · cases hx3
      · rcases L_X11_schemesSee_L21 (S := S) (d := d) (z := z) (x2 := (nI 4)) u_0 u_17 u_1000000 u_18 u_22 u_19 10000 (0 : Int32) c20_1 a21 H xfr_refl u_20 u_21 _ hy1 with ⟨_, _, _, _, _, hx3, _⟩ | ⟨_, hE6, _, H7, hx3, rfl, eH7_20, eH7_21, fH7⟩
        · cases hx3
        · cases hx3
          cases h
          exact Or.inr ⟨_, hE6, H7, rfl, eH7_20, eH7_21, (xfr_t xfr_refl rfl fH7)⟩
    · have h := (if_neg b7).symm.trans h
      refine go_step (fun _ => ev_run 1 (F' := (11, [some (.ref 0), none, none, none, none], [.int (1 : Int32)])) rfl) ?_
      cases h
      exact Or.inr ⟨_, ev_ret rfl rfl rfl rfl, H, rfl, u_20, u_21, xfr_refl⟩
  obtain ⟨_, hE, H', rfl, hrest⟩ := go_end G
  exact ⟨H', hE, hrest⟩
def q_X11_isSound (c1_1 : Int32) (a2 : Nat → Int32) (c7_0 : Int32) (c7_1 : Int32) (c7_2 : Int32) (c7_3 : Int32) (c7_4 : Int32) (c7_5 : Int32) (c8_0 : Int32) (c8_1 : Int32) (c8_2 : Int32) (c8_3 : Int32) (c8_4 : Int32) (c8_5 : Int32) (c17_1 : Int32) (a18 : Nat → Int32) (a22 : Nat → Int32) (c20_1 : Int32) (a21 : Nat → Int32) : Option (Int32 × Int32 × (Nat → Int32)) := ((q_X2_sumOf (0 : Int32) (t_X5_size c1_1) a2).bind (fun y1 => ((q_X1_sumOf (0 : Int32) (t_X5_size c1_1) c7_0 c7_1 c7_2 c7_3 c7_4 c7_5 a2).bind (fun y2 => (if ¬ (lg_cmp y2 y1) = (0 : Int32) then (some ((0 : Int32), c20_1, a21)) else ((q_X11_joinsEverywhere c1_1 c8_0 c8_1 c8_2 c8_3 c8_4 c8_5 a2).bind (fun y3 => (if y3 = (0 : Int32) then (some ((0 : Int32), c20_1, a21)) else ((q_X11_forgesItself y1 c1_1 a2).bind (fun y4 => (if y4 = (0 : Int32) then (some ((0 : Int32), c20_1, a21)) else ((q_X11_schemesSee c17_1 a18 a22 c20_1 a21).bind (fun y5 => (if y5.1 = (0 : Int32) then (some ((0 : Int32), y5.2.1, y5.2.2)) else (some ((1 : Int32), y5.2.1, y5.2.2))))))))))))))))
theorem C_X11_isSound {S : Nat × (Nat → Int32)} {d : Nat} {H : List xE} {z : Bool × Nat × Nat} {c1_1 : Int32} {a2 : Nat → Int32} {c7_0 : Int32} {c7_1 : Int32} {c7_2 : Int32} {c7_3 : Int32} {c7_4 : Int32} {c7_5 : Int32} {c8_0 : Int32} {c8_1 : Int32} {c8_2 : Int32} {c8_3 : Int32} {c8_4 : Int32} {c8_5 : Int32} {c17_1 : Int32} {a18 : Nat → Int32} {a22 : Nat → Int32} {c20_1 : Int32} {a21 : Nat → Int32} (u_0 : H[0]? = some (oO)) (u_1 : H[1]? = some (.inr (4, [.ref 2, .int c1_1]))) (u_2 : H[2]? = some (.inl (0, 64, .inl a2))) (u_7 : H[7]? = some (.inr (1, [.int c7_0, .int c7_1, .int c7_2, .int c7_3, .int c7_4, .int c7_5]))) (u_8 : H[8]? = some (.inr (1, [.int c8_0, .int c8_1, .int c8_2, .int c8_3, .int c8_4, .int c8_5]))) (u_17 : H[17]? = some (.inr (4, [.ref 18, .int c17_1]))) (u_18 : H[18]? = some (.inl (0, 18, .inl a18))) (u_22 : H[22]? = some (.inl (0, 190, .inl a22))) (u_20 : H[20]? = some (.inr (4, [.ref 21, .int c20_1]))) (u_21 : H[21]? = some (.inl (0, 18, .inl a21))) (u_1000000 : H[1000000]? = none) (u_19 : H[19]? = some (.inr (5, [.ref 20, .ref 22]))) {x : (Int32 × Int32 × (Nat → Int32))} (h : q_X11_isSound c1_1 a2 c7_0 c7_1 c7_2 c7_3 c7_4 c7_5 c8_0 c8_1 c8_2 c8_3 c8_4 c8_5 c17_1 a18 a22 c20_1 a21 = some x) : ∃ H' : List xE, Cm S (d + 6) 135 [.ref 0] (H, z) (.inr (some (.int x.1)), (H', z)) ∧ H'[20]? = some (.inr (4, [.ref 21, .int x.2.1])) ∧ H'[21]? = some (.inl (0, 18, .inl x.2.2)) ∧ xfr [20, 21] H H' := by
  have G : Go S (d + 6) 135 (0, [some (.ref 0), none, none], []) (H, z) (fun _ _ => False) (fun r => ∃ H' : List xE, r = (.inr (some (.int x.1)), (H', z)) ∧ H'[20]? = some (.inr (4, [.ref 21, .int x.2.1])) ∧ H'[21]? = some (.inl (0, 18, .inl x.2.2)) ∧ xfr [20, 21] H H') := by
    unfold q_X11_isSound at h
    refine go_step (fun _ => ev_run 1 (F' := (1, [some (.ref 0), none, none], [.ref 0])) rfl) ?_
    refine go_step (fun _ => ev_getf rfl u_0 rfl) ?_
    refine go_step (fun _ => ev_run 2 (F' := (6, [some (.ref 0), none, none], [.ref 0, .int (0 : Int32), .ref 1])) rfl) ?_
    refine go_step (fun _ => ev_getf rfl u_0 rfl) ?_
    refine go_step (F1 := (12, [some (.ref 0), none, none], [.int (t_X5_size c1_1), .int (0 : Int32), .ref 1])) (M1 := (H, z)) (fun _ => ev_callV (x := (.invokevirtual 109, 3, 53, 4, 396, .null)) (as := []) (rest := [.int (0 : Int32), .ref 1]) rfl rfl u_1 (C_X5_size (S := S) (d := d + 5) (z := z) u_1) rfl) ?_
    obtain ⟨y1, hy1, h⟩ := okb h
    refine go_step (F1 := (15, [some (.ref 0), none, none], [.long y1])) (M1 := (H, z)) (fun _ => ev_call (x := (.invokestatic 172, 3, 26, 0, 473, .null)) (as := [.ref 1, .int (0 : Int32), .int (t_X5_size c1_1)]) (rest := []) rfl rfl (C_X2_sumOf (S := S) (d := d + 3) (z := z) (x1 := (0 : Int32)) (x2 := (t_X5_size c1_1)) u_2 u_1 hy1) rfl) ?_
    refine go_step (fun _ => ev_run 2 (F' := (17, [some (.ref 0), some (.long y1), none], [.ref 0])) rfl) ?_
    refine go_step (fun _ => ev_getf rfl u_0 rfl) ?_
    refine go_step (fun _ => ev_run 1 (F' := (21, [some (.ref 0), some (.long y1), none], [.ref 0, .ref 7])) rfl) ?_
    refine go_step (fun _ => ev_getf rfl u_0 rfl) ?_
    refine go_step (fun _ => ev_run 2 (F' := (26, [some (.ref 0), some (.long y1), none], [.ref 0, .int (0 : Int32), .ref 1, .ref 7])) rfl) ?_
    refine go_step (fun _ => ev_getf rfl u_0 rfl) ?_
    refine go_step (F1 := (32, [some (.ref 0), some (.long y1), none], [.int (t_X5_size c1_1), .int (0 : Int32), .ref 1, .ref 7])) (M1 := (H, z)) (fun _ => ev_callV (x := (.invokevirtual 109, 3, 53, 4, 396, .null)) (as := []) (rest := [.int (0 : Int32), .ref 1, .ref 7]) rfl rfl u_1 (C_X5_size (S := S) (d := d + 5) (z := z) u_1) rfl) ?_
    obtain ⟨y2, hy2, h⟩ := okb h
    refine go_step (F1 := (35, [some (.ref 0), some (.long y1), none], [.long y2])) (M1 := (H, z)) (fun _ => ev_callV (x := (.invokevirtual 197, 3, 15, 1, 511, .null)) (as := [.ref 1, .int (0 : Int32), .int (t_X5_size c1_1)]) (rest := []) rfl rfl u_7 (C_X1_sumOf (S := S) (d := d + 3) (z := z) (x2 := (0 : Int32)) (x3 := (t_X5_size c1_1)) u_7 u_1 u_2 hy2) rfl) ?_
    refine go_step (fun _ => ev_run 2 (F' := (37, [some (.ref 0), some (.long y1), none], [.int (lg_cmp y2 y1)])) rfl) ?_
    refine go_if rfl (fun (b37 : ¬ (lg_cmp y2 y1) = (0 : Int32)) => ?_) (fun (b37 : ¬ (¬ (lg_cmp y2 y1) = (0 : Int32))) => ?_)
    · have h := (if_pos b37).symm.trans h
      refine go_step (fun _ => ev_run 1 (F' := (67, [some (.ref 0), some (.long y1), none], [.int (0 : Int32)])) rfl) ?_
      cases h
      exact Or.inr ⟨_, ev_ret rfl rfl rfl rfl, H, rfl, u_20, u_21, xfr_refl⟩
    · have h := (if_neg b37).symm.trans h
      refine go_step (fun _ => ev_run 1 (F' := (41, [some (.ref 0), some (.long y1), none], [.ref 0])) rfl) ?_
      obtain ⟨y3, hy3, h⟩ := okb h
      refine go_step (F1 := (44, [some (.ref 0), some (.long y1), none], [.int y3])) (M1 := (H, z)) (fun _ => ev_callV (x := (.invokevirtual 425, 3, 136, 10, 536, .null)) (as := []) (rest := []) rfl rfl u_0 (C_X11_joinsEverywhere (S := S) (d := d) (z := z) u_0 u_1 u_8 u_2 hy3) rfl) ?_
      refine go_if rfl (fun (b44 : y3 = (0 : Int32)) => ?_) (fun (b44 : ¬ (y3 = (0 : Int32))) => ?_)
      · have h := (if_pos b44).symm.trans h
        refine go_step (fun _ => ev_run 1 (F' := (67, [some (.ref 0), some (.long y1), none], [.int (0 : Int32)])) rfl) ?_
        cases h
        exact Or.inr ⟨_, ev_ret rfl rfl rfl rfl, H, rfl, u_20, u_21, xfr_refl⟩
      · have h := (if_neg b44).symm.trans h
        refine go_step (fun _ => ev_run 2 (F' := (49, [some (.ref 0), some (.long y1), none], [.long y1, .ref 0])) rfl) ?_
        obtain ⟨y4, hy4, h⟩ := okb h
        refine go_step (F1 := (52, [some (.ref 0), some (.long y1), none], [.int y4])) (M1 := (H, z)) (fun _ => ev_callV (x := (.invokevirtual 428, 3, 137, 10, 560, .null)) (as := [.long y1]) (rest := []) rfl rfl u_0 (C_X11_forgesItself (S := S) (d := d + 2) (z := z) (x1 := y1) u_0 u_1 u_2 hy4) rfl) ?_
        refine go_if rfl (fun (b52 : y4 = (0 : Int32)) => ?_) (fun (b52 : ¬ (y4 = (0 : Int32))) => ?_)
        · have h := (if_pos b52).symm.trans h
          refine go_step (fun _ => ev_run 1 (F' := (67, [some (.ref 0), some (.long y1), none], [.int (0 : Int32)])) rfl) ?_
          cases h
          exact Or.inr ⟨_, ev_ret rfl rfl rfl rfl, H, rfl, u_20, u_21, xfr_refl⟩
        · have h := (if_neg b52).symm.trans h
          refine go_step (fun _ => ev_run 1 (F' := (56, [some (.ref 0), some (.long y1), none], [.ref 0])) rfl) ?_
          obtain ⟨y5, hy5, h⟩ := okb h
          obtain ⟨H6, hCH6, eH6_20, eH6_21, fH6⟩ := C_X11_schemesSee (S := S) (d := d) (z := z) u_0 u_17 u_1000000 u_18 u_22 u_20 u_21 u_19 hy5
          refine go_step (F1 := (59, [some (.ref 0), some (.long y1), none], [.int y5.1])) (M1 := (H6, z)) (fun _ => ev_callV (x := (.invokevirtual 432, 3, 138, 10, 573, .null)) (as := []) (rest := []) rfl rfl u_0 hCH6 rfl) ?_
          refine go_if rfl (fun (b59 : y5.1 = (0 : Int32)) => ?_) (fun (b59 : ¬ (y5.1 = (0 : Int32))) => ?_)
          · have h := (if_pos b59).symm.trans h
            refine go_step (fun _ => ev_run 1 (F' := (67, [some (.ref 0), some (.long y1), none], [.int (0 : Int32)])) rfl) ?_
            cases h
            exact Or.inr ⟨_, ev_ret rfl rfl rfl rfl, H6, rfl, eH6_20, eH6_21, (xfr_t xfr_refl rfl fH6)⟩
          · have h := (if_neg b59).symm.trans h
            refine go_step (fun _ => ev_run 2 (F' := (67, [some (.ref 0), some (.long y1), none], [.int (1 : Int32)])) rfl) ?_
            cases h
            exact Or.inr ⟨_, ev_ret rfl rfl rfl rfl, H6, rfl, eH6_20, eH6_21, (xfr_t xfr_refl rfl fH6)⟩
  obtain ⟨_, hE, H', rfl, hrest⟩ := go_end G
  exact ⟨H', hE, hrest⟩
